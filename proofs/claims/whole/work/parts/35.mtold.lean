/-! ===== told, feed, force, image, back, count, taken: the model ===== -/
/-- what told answers -/
def toldA (X : XV) (D : DV) (o w : Int32) : Int32 :=
  if 0 ≤ w ∧ w ≤ 4 then (if w = 0 ∨ (w = 1 ∧ 0 ≤ o ∧ o ≤ 15) ∨ ((2 ≤ w ∧ w ≤ 4) ∧ 0 ≤ o ∧ o < nI (dn D)) then getA D w o else -1000)
  else if 10 ≤ w ∧ w ≤ 12 then (if 0 ≤ o ∧ o ≤ 15 then (if w = 10 then gld X D o.toNatClampNeg else if w = 11 then b2i (gon D o.toNatClampNeg = true) else strn X D (dn D) o.toNatClampNeg) else -1000)
  else if 0 ≤ o ∧ o < nI (dn D) then (if w = 5 then D 1 o.toNatClampNeg else if w = 6 then D 3 o.toNatClampNeg else if w = 7 then D 4 o.toNatClampNeg else if w = 8 then wea X D o.toNatClampNeg else if w = 9 then sta X D o.toNatClampNeg else -1000) else -1000
def T_X6_told (g : WG) (as : List Value) (M : MM) (Q : Option Value → MM → Prop) : Prop := ∃ o w, as = [.ref 76, .int o, .int w] ∧ okM M ∧ ∀ M', Sm YL M M' → Q (some (.int (toldA (xm M) (dm M) o w))) M'
set_option maxRecDepth 100000 in
set_option maxHeartbeats 2000000 in
theorem t_X6_told {l : Launch} {g : WG} (hg : Full g) : Ct l g yX6_told cX6_told 3 ((Option.some FieldType.int)) 7 (T_X6_told g) := by
  refine Ct.of (by decide) (fun as M Q h => ?_) (fun p e s m args below meth c as M Q h C => ?_)
  · obtain ⟨o, w, rfl, ho, h⟩ := h; exact ⟨by simp, by simp [Value.category]⟩
  · obtain ⟨o, w, rfl, ho, h⟩ := h
    have hn := ho.n
    have hmany := ho.many
    refine s_of (fun lv st M0 hs => ?_) (WX6_told_0 C (t_X6_within hg) (by decide) (t_X6_isOf hg) (by decide) (t_X6_get hg) (by decide) (t_X6_isSeam hg) (by decide) (t_X6_isHour hg) (by decide) (t_X6_looks hg) (by decide) (t_X6_glad hg) (by decide) (t_X6_wears hg) (by decide) (t_X6_stands hg) (by decide))
    obtain ⟨rfl, rfl, rfl⟩ := hs
    unfold BX6_told_0
    generalize hB6 : BX6_told_6 g Q (T_X6_within g) (T_X6_isOf g) (T_X6_get g) (T_X6_isSeam g) (T_X6_isHour g) (T_X6_looks g) (T_X6_glad g) (T_X6_wears g) (T_X6_stands g) = B6
    simp only [T_X6_within, T_X6_isOf, T_X6_get, T_X6_isSeam, T_X6_isHour, T_X6_looks, T_X6_glad, T_X6_wears, T_X6_stands, i_const, i_lconst, i_iload, i_aload, i_lload, i_istore, i_astore, i_lstore, i_iinc, i_bin, i_div, i_un, i_i2l, i_l2i, i_lbin, i_lcmp, i_if, i_icmp, i_dup, i_dup_x1, i_dup2, i_pop, i_geti, i_getr, i_getd, i_puti, i_putz, i_putd, i_iald, i_bald, i_aald, i_iast, i_bast, i_alen, i_keep, i_ret, i_retz, i_reta, i_retl, i_retv, i_callv, i_callk, i_calls, i_mm, i_copy, i_under, i_undld, i_ldcs, i_sw, q_swc0, q_swc1, q_lg0, q_lg1, q_lent0, q_lent1, lset, lset2, q_lins0, q_lins1, q_ldel0, q_ldel1, q_ldel20, q_ldel21, q_lkeep0, q_lkeep1, q_memb0, q_memb1, cat2, Nat.reduceBEq, decide_true, decide_false, decide_eq_true_eq, cond_true, cond_false, Bool.and_true, Bool.and_false, Bool.true_and, Bool.false_and, f_iadd, f_isub, f_imul, f_ishl, f_ishr, f_iushr, f_iand, f_ior, f_idiv, f_irem, f_ineg, f_i2b, f_i2s, f_ladd, f_lmul, c_eq, c_ne, c_lt, c_ge, c_gt, c_le, cc_eq, cc_ne, cc_lt, cc_ge, cc_gt, cc_le, rfo, aof, csum, Value.category, List.take, List.drop, List.reverse, List.reverseAux, List.map, List.sum_cons, List.sum_nil, List.cons_append, List.nil_append, Option.toList, List.mem_cons, List.not_mem_nil, List.length_cons, List.length_nil, reduceIte, Nat.reduceEqDiff, Nat.reduceAdd, Nat.reduceLeDiff, Nat.reduceLT, a_day, Nat.zero_ne_one, Nat.one_ne_zero, false_and, and_false, true_and, and_true, or_false, false_or, or_true, true_or, not_true_eq_false, not_false_eq_true, Nat.zero_add, Nat.add_zero, Nat.le_refl, Nat.lt_irrefl, Nat.zero_lt_succ, Nat.zero_le, forall_const, List.cons.injEq, Value.int.injEq, Value.ref.injEq, Value.long.injEq, and_assoc, exists_and_left, exists_eq_left']
    try simp only [forall_eq]
    unfold toldA at h
    subst hB6
    unfold BX6_told_6
    generalize hB15 : BX6_told_15 g Q (T_X6_within g) (T_X6_isOf g) (T_X6_get g) (T_X6_isSeam g) (T_X6_isHour g) (T_X6_looks g) (T_X6_glad g) (T_X6_wears g) (T_X6_stands g) = B15
    generalize hB39 : BX6_told_39 g Q (T_X6_within g) (T_X6_isOf g) (T_X6_get g) (T_X6_isSeam g) (T_X6_isHour g) (T_X6_looks g) (T_X6_glad g) (T_X6_wears g) (T_X6_stands g) = B39
    simp only [T_X6_within, T_X6_isOf, T_X6_get, T_X6_isSeam, T_X6_isHour, T_X6_looks, T_X6_glad, T_X6_wears, T_X6_stands, i_const, i_lconst, i_iload, i_aload, i_lload, i_istore, i_astore, i_lstore, i_iinc, i_bin, i_div, i_un, i_i2l, i_l2i, i_lbin, i_lcmp, i_if, i_icmp, i_dup, i_dup_x1, i_dup2, i_pop, i_geti, i_getr, i_getd, i_puti, i_putz, i_putd, i_iald, i_bald, i_aald, i_iast, i_bast, i_alen, i_keep, i_ret, i_retz, i_reta, i_retl, i_retv, i_callv, i_callk, i_calls, i_mm, i_copy, i_under, i_undld, i_ldcs, i_sw, q_swc0, q_swc1, q_lg0, q_lg1, q_lent0, q_lent1, lset, lset2, q_lins0, q_lins1, q_ldel0, q_ldel1, q_ldel20, q_ldel21, q_lkeep0, q_lkeep1, q_memb0, q_memb1, cat2, Nat.reduceBEq, decide_true, decide_false, decide_eq_true_eq, cond_true, cond_false, Bool.and_true, Bool.and_false, Bool.true_and, Bool.false_and, f_iadd, f_isub, f_imul, f_ishl, f_ishr, f_iushr, f_iand, f_ior, f_idiv, f_irem, f_ineg, f_i2b, f_i2s, f_ladd, f_lmul, c_eq, c_ne, c_lt, c_ge, c_gt, c_le, cc_eq, cc_ne, cc_lt, cc_ge, cc_gt, cc_le, rfo, aof, csum, Value.category, List.take, List.drop, List.reverse, List.reverseAux, List.map, List.sum_cons, List.sum_nil, List.cons_append, List.nil_append, Option.toList, List.mem_cons, List.not_mem_nil, List.length_cons, List.length_nil, reduceIte, Nat.reduceEqDiff, Nat.reduceAdd, Nat.reduceLeDiff, Nat.reduceLT, a_day, Nat.zero_ne_one, Nat.one_ne_zero, false_and, and_false, true_and, and_true, or_false, false_or, or_true, true_or, not_true_eq_false, not_false_eq_true, Nat.zero_add, Nat.add_zero, Nat.le_refl, Nat.lt_irrefl, Nat.zero_lt_succ, Nat.zero_le, forall_const, List.cons.injEq, Value.int.injEq, Value.ref.injEq, Value.long.injEq, and_assoc, exists_and_left, exists_eq_left']
    try simp only [forall_eq]
    refine ⟨fun z1 => ?_, fun z1 => ?_⟩
    · rw [if_neg (b2n z1)] at h
      subst hB39
      unfold BX6_told_39
      generalize hB46 : BX6_told_46 g Q (T_X6_within g) (T_X6_isOf g) (T_X6_get g) (T_X6_isSeam g) (T_X6_isHour g) (T_X6_looks g) (T_X6_glad g) (T_X6_wears g) (T_X6_stands g) = B46
      generalize hB106 : BX6_told_106 g Q (T_X6_within g) (T_X6_isOf g) (T_X6_get g) (T_X6_isSeam g) (T_X6_isHour g) (T_X6_looks g) (T_X6_glad g) (T_X6_wears g) (T_X6_stands g) = B106
      simp only [T_X6_within, T_X6_isOf, T_X6_get, T_X6_isSeam, T_X6_isHour, T_X6_looks, T_X6_glad, T_X6_wears, T_X6_stands, i_const, i_lconst, i_iload, i_aload, i_lload, i_istore, i_astore, i_lstore, i_iinc, i_bin, i_div, i_un, i_i2l, i_l2i, i_lbin, i_lcmp, i_if, i_icmp, i_dup, i_dup_x1, i_dup2, i_pop, i_geti, i_getr, i_getd, i_puti, i_putz, i_putd, i_iald, i_bald, i_aald, i_iast, i_bast, i_alen, i_keep, i_ret, i_retz, i_reta, i_retl, i_retv, i_callv, i_callk, i_calls, i_mm, i_copy, i_under, i_undld, i_ldcs, i_sw, q_swc0, q_swc1, q_lg0, q_lg1, q_lent0, q_lent1, lset, lset2, q_lins0, q_lins1, q_ldel0, q_ldel1, q_ldel20, q_ldel21, q_lkeep0, q_lkeep1, q_memb0, q_memb1, cat2, Nat.reduceBEq, decide_true, decide_false, decide_eq_true_eq, cond_true, cond_false, Bool.and_true, Bool.and_false, Bool.true_and, Bool.false_and, f_iadd, f_isub, f_imul, f_ishl, f_ishr, f_iushr, f_iand, f_ior, f_idiv, f_irem, f_ineg, f_i2b, f_i2s, f_ladd, f_lmul, c_eq, c_ne, c_lt, c_ge, c_gt, c_le, cc_eq, cc_ne, cc_lt, cc_ge, cc_gt, cc_le, rfo, aof, csum, Value.category, List.take, List.drop, List.reverse, List.reverseAux, List.map, List.sum_cons, List.sum_nil, List.cons_append, List.nil_append, Option.toList, List.mem_cons, List.not_mem_nil, List.length_cons, List.length_nil, reduceIte, Nat.reduceEqDiff, Nat.reduceAdd, Nat.reduceLeDiff, Nat.reduceLT, a_day, Nat.zero_ne_one, Nat.one_ne_zero, false_and, and_false, true_and, and_true, or_false, false_or, or_true, true_or, not_true_eq_false, not_false_eq_true, Nat.zero_add, Nat.add_zero, Nat.le_refl, Nat.lt_irrefl, Nat.zero_lt_succ, Nat.zero_le, forall_const, List.cons.injEq, Value.int.injEq, Value.ref.injEq, Value.long.injEq, and_assoc, exists_and_left, exists_eq_left']
      try simp only [forall_eq]
      refine ⟨fun z2 => ?_, fun z2 => ?_⟩
      · rw [if_neg (b2n z2)] at h
        refine ⟨(m_76 hg).1, (m_76 hg).2.1, dn (dm M0), by omega, hmany, ?_⟩
        subst hB106
        unfold BX6_told_106
        simp only [T_X6_within, T_X6_isOf, T_X6_get, T_X6_isSeam, T_X6_isHour, T_X6_looks, T_X6_glad, T_X6_wears, T_X6_stands, i_const, i_lconst, i_iload, i_aload, i_lload, i_istore, i_astore, i_lstore, i_iinc, i_bin, i_div, i_un, i_i2l, i_l2i, i_lbin, i_lcmp, i_if, i_icmp, i_dup, i_dup_x1, i_dup2, i_pop, i_geti, i_getr, i_getd, i_puti, i_putz, i_putd, i_iald, i_bald, i_aald, i_iast, i_bast, i_alen, i_keep, i_ret, i_retz, i_reta, i_retl, i_retv, i_callv, i_callk, i_calls, i_mm, i_copy, i_under, i_undld, i_ldcs, i_sw, q_swc0, q_swc1, q_lg0, q_lg1, q_lent0, q_lent1, lset, lset2, q_lins0, q_lins1, q_ldel0, q_ldel1, q_ldel20, q_ldel21, q_lkeep0, q_lkeep1, q_memb0, q_memb1, cat2, Nat.reduceBEq, decide_true, decide_false, decide_eq_true_eq, cond_true, cond_false, Bool.and_true, Bool.and_false, Bool.true_and, Bool.false_and, f_iadd, f_isub, f_imul, f_ishl, f_ishr, f_iushr, f_iand, f_ior, f_idiv, f_irem, f_ineg, f_i2b, f_i2s, f_ladd, f_lmul, c_eq, c_ne, c_lt, c_ge, c_gt, c_le, cc_eq, cc_ne, cc_lt, cc_ge, cc_gt, cc_le, rfo, aof, csum, Value.category, List.take, List.drop, List.reverse, List.reverseAux, List.map, List.sum_cons, List.sum_nil, List.cons_append, List.nil_append, Option.toList, List.mem_cons, List.not_mem_nil, List.length_cons, List.length_nil, reduceIte, Nat.reduceEqDiff, Nat.reduceAdd, Nat.reduceLeDiff, Nat.reduceLT, a_day, Nat.zero_ne_one, Nat.one_ne_zero, false_and, and_false, true_and, and_true, or_false, false_or, or_true, true_or, not_true_eq_false, not_false_eq_true, Nat.zero_add, Nat.add_zero, Nat.le_refl, Nat.lt_irrefl, Nat.zero_lt_succ, Nat.zero_le, forall_const, List.cons.injEq, Value.int.injEq, Value.ref.injEq, Value.long.injEq, and_assoc, exists_and_left, exists_eq_left']
        try simp only [forall_eq]
        refine ⟨fun z3 => ?_, fun z3 => ?_⟩
        · obtain ⟨q1, q2⟩ := b2t z3
          rw [if_pos ⟨q1, q2⟩] at h
          obtain ⟨k, hk, rfl⟩ := nI_of (i_not_lt.mpr q1)
          have hlt : k < dn (dm M0) := (nI_ltI hk (by omega)).mp q2
          rw [nI_clamp hk] at h ⊢
          refine ⟨fun e5 => ?_, fun e5 => ⟨fun e6 => ?_, fun e6 => ⟨fun e7 => ?_, fun e7 => ⟨fun e8 => ?_, fun e8 => ⟨fun e9 => ?_, fun e9 => ?_⟩⟩⟩⟩⟩
          · rw [if_pos e5, dm_s 1 (by decide) (by decide) hlt] at h
            exact ⟨m_76 hg, m_78 hg, vm l_78 (by omega) (by decide), h M0 Sm.rf⟩
          · rw [if_neg e5, if_pos e6, dm_s 3 (by decide) (by decide) hlt] at h
            exact ⟨m_76 hg, m_80 hg, vm l_80 (by omega) (by decide), h M0 Sm.rf⟩
          · rw [if_neg e5, if_neg e6, if_pos e7, dm_s 4 (by decide) (by decide) hlt] at h
            exact ⟨m_76 hg, m_81 hg, vm l_81 (by omega) (by decide), h M0 Sm.rf⟩
          · rw [if_neg e5, if_neg e6, if_neg e7, if_pos e8] at h
            exact ⟨(m_76 hg).1, (m_76 hg).2.1, k, rfl, ho, hlt, fun M' hs => h M' (hs.mono fun a b q => by unfold YL; omega)⟩
          · rw [if_neg e5, if_neg e6, if_neg e7, if_neg e8, if_pos e9] at h
            exact ⟨(m_76 hg).1, (m_76 hg).2.1, k, rfl, ho, hlt, fun M' hs => h M' (hs.mono fun a b q => by unfold YL; omega)⟩
          · rw [if_neg e5, if_neg e6, if_neg e7, if_neg e8, if_neg e9] at h
            exact h M0 Sm.rf
        · rw [if_neg (b2n (Decidable.not_not.mp z3))] at h
          exact h M0 Sm.rf
      · have c2 := b2t z2
        rw [if_pos c2] at h
        subst hB46
        unfold BX6_told_46
        generalize hB57 : BX6_told_57 g Q (T_X6_within g) (T_X6_isOf g) (T_X6_get g) (T_X6_isSeam g) (T_X6_isHour g) (T_X6_looks g) (T_X6_glad g) (T_X6_wears g) (T_X6_stands g) = B57
        simp only [T_X6_within, T_X6_isOf, T_X6_get, T_X6_isSeam, T_X6_isHour, T_X6_looks, T_X6_glad, T_X6_wears, T_X6_stands, i_const, i_lconst, i_iload, i_aload, i_lload, i_istore, i_astore, i_lstore, i_iinc, i_bin, i_div, i_un, i_i2l, i_l2i, i_lbin, i_lcmp, i_if, i_icmp, i_dup, i_dup_x1, i_dup2, i_pop, i_geti, i_getr, i_getd, i_puti, i_putz, i_putd, i_iald, i_bald, i_aald, i_iast, i_bast, i_alen, i_keep, i_ret, i_retz, i_reta, i_retl, i_retv, i_callv, i_callk, i_calls, i_mm, i_copy, i_under, i_undld, i_ldcs, i_sw, q_swc0, q_swc1, q_lg0, q_lg1, q_lent0, q_lent1, lset, lset2, q_lins0, q_lins1, q_ldel0, q_ldel1, q_ldel20, q_ldel21, q_lkeep0, q_lkeep1, q_memb0, q_memb1, cat2, Nat.reduceBEq, decide_true, decide_false, decide_eq_true_eq, cond_true, cond_false, Bool.and_true, Bool.and_false, Bool.true_and, Bool.false_and, f_iadd, f_isub, f_imul, f_ishl, f_ishr, f_iushr, f_iand, f_ior, f_idiv, f_irem, f_ineg, f_i2b, f_i2s, f_ladd, f_lmul, c_eq, c_ne, c_lt, c_ge, c_gt, c_le, cc_eq, cc_ne, cc_lt, cc_ge, cc_gt, cc_le, rfo, aof, csum, Value.category, List.take, List.drop, List.reverse, List.reverseAux, List.map, List.sum_cons, List.sum_nil, List.cons_append, List.nil_append, Option.toList, List.mem_cons, List.not_mem_nil, List.length_cons, List.length_nil, reduceIte, Nat.reduceEqDiff, Nat.reduceAdd, Nat.reduceLeDiff, Nat.reduceLT, a_day, Nat.zero_ne_one, Nat.one_ne_zero, false_and, and_false, true_and, and_true, or_false, false_or, or_true, true_or, not_true_eq_false, not_false_eq_true, Nat.zero_add, Nat.add_zero, Nat.le_refl, Nat.lt_irrefl, Nat.zero_lt_succ, Nat.zero_le, forall_const, List.cons.injEq, Value.int.injEq, Value.ref.injEq, Value.long.injEq, and_assoc, exists_and_left, exists_eq_left']
        try simp only [forall_eq]
        refine ⟨fun z3 => ⟨(m_76 hg).1, (m_76 hg).2.1, ho, fun M1 hs1 hl1 => ?_⟩, fun z3 => ?_⟩
        · obtain ⟨q1, q2⟩ := b2t z3
          rw [if_pos ⟨q1, q2⟩] at h
          obtain ⟨k, hk, rfl⟩ := nI_of (i_not_lt.mpr q1)
          have hlt : k < 16 := by have := (nI_leI (b := 15) hk (by decide)).mp q2; omega
          rw [nI_clamp hk] at h
          obtain ⟨-, kd', -⟩ := keepM hs1 YL88 ho
          have h1 := h M1 hs1
          obtain ⟨l1, l2, l3⟩ := hl1 k hlt
          subst hB57
          unfold BX6_told_57
          simp only [T_X6_within, T_X6_isOf, T_X6_get, T_X6_isSeam, T_X6_isHour, T_X6_looks, T_X6_glad, T_X6_wears, T_X6_stands, i_const, i_lconst, i_iload, i_aload, i_lload, i_istore, i_astore, i_lstore, i_iinc, i_bin, i_div, i_un, i_i2l, i_l2i, i_lbin, i_lcmp, i_if, i_icmp, i_dup, i_dup_x1, i_dup2, i_pop, i_geti, i_getr, i_getd, i_puti, i_putz, i_putd, i_iald, i_bald, i_aald, i_iast, i_bast, i_alen, i_keep, i_ret, i_retz, i_reta, i_retl, i_retv, i_callv, i_callk, i_calls, i_mm, i_copy, i_under, i_undld, i_ldcs, i_sw, q_swc0, q_swc1, q_lg0, q_lg1, q_lent0, q_lent1, lset, lset2, q_lins0, q_lins1, q_ldel0, q_ldel1, q_ldel20, q_ldel21, q_lkeep0, q_lkeep1, q_memb0, q_memb1, cat2, Nat.reduceBEq, decide_true, decide_false, decide_eq_true_eq, cond_true, cond_false, Bool.and_true, Bool.and_false, Bool.true_and, Bool.false_and, f_iadd, f_isub, f_imul, f_ishl, f_ishr, f_iushr, f_iand, f_ior, f_idiv, f_irem, f_ineg, f_i2b, f_i2s, f_ladd, f_lmul, c_eq, c_ne, c_lt, c_ge, c_gt, c_le, cc_eq, cc_ne, cc_lt, cc_ge, cc_gt, cc_le, rfo, aof, csum, Value.category, List.take, List.drop, List.reverse, List.reverseAux, List.map, List.sum_cons, List.sum_nil, List.cons_append, List.nil_append, Option.toList, List.mem_cons, List.not_mem_nil, List.length_cons, List.length_nil, reduceIte, Nat.reduceEqDiff, Nat.reduceAdd, Nat.reduceLeDiff, Nat.reduceLT, a_day, Nat.zero_ne_one, Nat.one_ne_zero, false_and, and_false, true_and, and_true, or_false, false_or, or_true, true_or, not_true_eq_false, not_false_eq_true, Nat.zero_add, Nat.add_zero, Nat.le_refl, Nat.lt_irrefl, Nat.zero_lt_succ, Nat.zero_le, forall_const, List.cons.injEq, Value.int.injEq, Value.ref.injEq, Value.long.injEq, and_assoc, exists_and_left, exists_eq_left']
          try simp only [forall_eq]
          rw [nI_clamp hk, l1, l3]
          refine ⟨fun e10 => ⟨fun e11 => ?_, fun e11 => ?_⟩, fun e10 => ?_⟩
          · rw [if_neg e10, if_neg e11] at h1
            exact ⟨m_76 hg, m_92 hg, vm l_92 hlt (by decide), h1⟩
          · rw [if_neg e10, if_pos (Decidable.not_not.mp e11)] at h1
            refine ⟨m_76 hg, m_90 hg, vm l_90 hlt (by decide), fun y => ?_, fun y => ?_⟩
            · rw [y] at h1; exact h1
            · rw [b2i_t (b2t y)] at h1; exact h1
          · rw [if_pos (Decidable.not_not.mp e10)] at h1
            exact ⟨(m_76 hg).1, (m_76 hg).2.1, k, rfl, hlt, xm M0, by rw [kd']; exact hl1, by rw [kd']; exact h1⟩
        · rw [if_neg (b2n (Decidable.not_not.mp z3))] at h
          exact h M0 Sm.rf
    · have c1 := b2t z1
      rw [if_pos c1] at h
      refine ⟨(m_76 hg).1, (m_76 hg).2.1, dn (dm M0), by omega, hmany, fun c2 => ?_, fun c2 => ?_⟩
      · subst hB15
        unfold BX6_told_15
        simp only [T_X6_within, T_X6_isOf, T_X6_get, T_X6_isSeam, T_X6_isHour, T_X6_looks, T_X6_glad, T_X6_wears, T_X6_stands, i_const, i_lconst, i_iload, i_aload, i_lload, i_istore, i_astore, i_lstore, i_iinc, i_bin, i_div, i_un, i_i2l, i_l2i, i_lbin, i_lcmp, i_if, i_icmp, i_dup, i_dup_x1, i_dup2, i_pop, i_geti, i_getr, i_getd, i_puti, i_putz, i_putd, i_iald, i_bald, i_aald, i_iast, i_bast, i_alen, i_keep, i_ret, i_retz, i_reta, i_retl, i_retv, i_callv, i_callk, i_calls, i_mm, i_copy, i_under, i_undld, i_ldcs, i_sw, q_swc0, q_swc1, q_lg0, q_lg1, q_lent0, q_lent1, lset, lset2, q_lins0, q_lins1, q_ldel0, q_ldel1, q_ldel20, q_ldel21, q_lkeep0, q_lkeep1, q_memb0, q_memb1, cat2, Nat.reduceBEq, decide_true, decide_false, decide_eq_true_eq, cond_true, cond_false, Bool.and_true, Bool.and_false, Bool.true_and, Bool.false_and, f_iadd, f_isub, f_imul, f_ishl, f_ishr, f_iushr, f_iand, f_ior, f_idiv, f_irem, f_ineg, f_i2b, f_i2s, f_ladd, f_lmul, c_eq, c_ne, c_lt, c_ge, c_gt, c_le, cc_eq, cc_ne, cc_lt, cc_ge, cc_gt, cc_le, rfo, aof, csum, Value.category, List.take, List.drop, List.reverse, List.reverseAux, List.map, List.sum_cons, List.sum_nil, List.cons_append, List.nil_append, Option.toList, List.mem_cons, List.not_mem_nil, List.length_cons, List.length_nil, reduceIte, Nat.reduceEqDiff, Nat.reduceAdd, Nat.reduceLeDiff, Nat.reduceLT, a_day, Nat.zero_ne_one, Nat.one_ne_zero, false_and, and_false, true_and, and_true, or_false, false_or, or_true, true_or, not_true_eq_false, not_false_eq_true, Nat.zero_add, Nat.add_zero, Nat.le_refl, Nat.lt_irrefl, Nat.zero_lt_succ, Nat.zero_le, forall_const, List.cons.injEq, Value.int.injEq, Value.ref.injEq, Value.long.injEq, and_assoc, exists_and_left, exists_eq_left']
        try simp only [forall_eq]
        have c2' : (w = 0 ∨ (w = 1 ∧ 0 ≤ o ∧ o ≤ 15) ∨ ((2 ≤ w ∧ w ≤ 4) ∧ 0 ≤ o ∧ o < nI (dn (dm M0)))) := c2
        rw [if_pos c2'] at h
        exact ⟨fun z => absurd z (by decide), fun _ => ⟨(m_76 hg).1, (m_76 hg).2.1, ho, c2, h M0 Sm.rf⟩⟩
      · subst hB15
        unfold BX6_told_15
        simp only [T_X6_within, T_X6_isOf, T_X6_get, T_X6_isSeam, T_X6_isHour, T_X6_looks, T_X6_glad, T_X6_wears, T_X6_stands, i_const, i_lconst, i_iload, i_aload, i_lload, i_istore, i_astore, i_lstore, i_iinc, i_bin, i_div, i_un, i_i2l, i_l2i, i_lbin, i_lcmp, i_if, i_icmp, i_dup, i_dup_x1, i_dup2, i_pop, i_geti, i_getr, i_getd, i_puti, i_putz, i_putd, i_iald, i_bald, i_aald, i_iast, i_bast, i_alen, i_keep, i_ret, i_retz, i_reta, i_retl, i_retv, i_callv, i_callk, i_calls, i_mm, i_copy, i_under, i_undld, i_ldcs, i_sw, q_swc0, q_swc1, q_lg0, q_lg1, q_lent0, q_lent1, lset, lset2, q_lins0, q_lins1, q_ldel0, q_ldel1, q_ldel20, q_ldel21, q_lkeep0, q_lkeep1, q_memb0, q_memb1, cat2, Nat.reduceBEq, decide_true, decide_false, decide_eq_true_eq, cond_true, cond_false, Bool.and_true, Bool.and_false, Bool.true_and, Bool.false_and, f_iadd, f_isub, f_imul, f_ishl, f_ishr, f_iushr, f_iand, f_ior, f_idiv, f_irem, f_ineg, f_i2b, f_i2s, f_ladd, f_lmul, c_eq, c_ne, c_lt, c_ge, c_gt, c_le, cc_eq, cc_ne, cc_lt, cc_ge, cc_gt, cc_le, rfo, aof, csum, Value.category, List.take, List.drop, List.reverse, List.reverseAux, List.map, List.sum_cons, List.sum_nil, List.cons_append, List.nil_append, Option.toList, List.mem_cons, List.not_mem_nil, List.length_cons, List.length_nil, reduceIte, Nat.reduceEqDiff, Nat.reduceAdd, Nat.reduceLeDiff, Nat.reduceLT, a_day, Nat.zero_ne_one, Nat.one_ne_zero, false_and, and_false, true_and, and_true, or_false, false_or, or_true, true_or, not_true_eq_false, not_false_eq_true, Nat.zero_add, Nat.add_zero, Nat.le_refl, Nat.lt_irrefl, Nat.zero_lt_succ, Nat.zero_le, forall_const, List.cons.injEq, Value.int.injEq, Value.ref.injEq, Value.long.injEq, and_assoc, exists_and_left, exists_eq_left']
        try simp only [forall_eq]
        have c2' : ¬ (w = 0 ∨ (w = 1 ∧ 0 ≤ o ∧ o ≤ 15) ∨ ((2 ≤ w ∧ w ≤ 4) ∧ 0 ≤ o ∧ o < nI (dn (dm M0)))) := c2
        rw [if_neg c2'] at h
        exact ⟨h M0 Sm.rf, fun z => z.elim⟩
def T_X6_feed (g : WG) (as : List Value) (M : MM) (Q : Option Value → MM → Prop) : Prop := ∃ x n, as = [.ref 76, .int x] ∧ M 76 10 = nI n ∧ n ≤ 160 ∧ (¬ (0 ≤ x ∧ x ≤ 255) → Q (some (.int (-2))) M) ∧ ((0 ≤ x ∧ x ≤ 255) → n = 160 → Q (some (.int (-4))) M) ∧ ((0 ≤ x ∧ x ≤ 255) → n < 160 → Q (some (.int (nI (n + 1)))) (mset (mset M 76 10 (nI (n + 1))) 84 n x))
set_option maxRecDepth 100000 in
set_option maxHeartbeats 1000000 in
theorem t_X6_feed {l : Launch} {g : WG} (hg : Full g) : Ct l g yX6_feed cX6_feed 2 ((Option.some FieldType.int)) 2 (T_X6_feed g) := by
  refine Ct.of (by decide) (fun as M Q h => ?_) (fun p e s m args below meth c as M Q h C => ?_)
  · obtain ⟨x, n, rfl, h10, hn, hb, hf, h⟩ := h; exact ⟨by simp, by simp [Value.category]⟩
  · obtain ⟨x, n, rfl, h10, hn, hb, hf, h⟩ := h
    refine s_of (fun lv st M0 hs => ?_) (WX6_feed_0 C (t_X6_within hg) (by decide))
    obtain ⟨rfl, rfl, rfl⟩ := hs
    unfold BX6_feed_0
    generalize hB8 : BX6_feed_8 g Q (T_X6_within g) = B8
    simp only [T_X6_within, i_const, i_lconst, i_iload, i_aload, i_lload, i_istore, i_astore, i_lstore, i_iinc, i_bin, i_div, i_un, i_i2l, i_l2i, i_lbin, i_lcmp, i_if, i_icmp, i_dup, i_dup_x1, i_dup2, i_pop, i_geti, i_getr, i_getd, i_puti, i_putz, i_putd, i_iald, i_bald, i_aald, i_iast, i_bast, i_alen, i_keep, i_ret, i_retz, i_reta, i_retl, i_retv, i_callv, i_callk, i_calls, i_mm, i_copy, i_under, i_undld, i_ldcs, i_sw, q_swc0, q_swc1, q_lg0, q_lg1, q_lent0, q_lent1, lset, lset2, q_lins0, q_lins1, q_ldel0, q_ldel1, q_ldel20, q_ldel21, q_lkeep0, q_lkeep1, q_memb0, q_memb1, cat2, Nat.reduceBEq, decide_true, decide_false, decide_eq_true_eq, cond_true, cond_false, Bool.and_true, Bool.and_false, Bool.true_and, Bool.false_and, f_iadd, f_isub, f_imul, f_ishl, f_ishr, f_iushr, f_iand, f_ior, f_idiv, f_irem, f_ineg, f_i2b, f_i2s, f_ladd, f_lmul, c_eq, c_ne, c_lt, c_ge, c_gt, c_le, cc_eq, cc_ne, cc_lt, cc_ge, cc_gt, cc_le, rfo, aof, csum, Value.category, List.take, List.drop, List.reverse, List.reverseAux, List.map, List.sum_cons, List.sum_nil, List.cons_append, List.nil_append, Option.toList, List.mem_cons, List.not_mem_nil, List.length_cons, List.length_nil, reduceIte, Nat.reduceEqDiff, Nat.reduceAdd, Nat.reduceLeDiff, Nat.reduceLT, a_day, Nat.zero_ne_one, Nat.one_ne_zero, false_and, and_false, true_and, and_true, or_false, false_or, or_true, true_or, not_true_eq_false, not_false_eq_true, Nat.zero_add, Nat.add_zero, Nat.le_refl, Nat.lt_irrefl, Nat.zero_lt_succ, Nat.zero_le, forall_const, List.cons.injEq, Value.int.injEq, Value.ref.injEq, Value.long.injEq, and_assoc, exists_and_left, exists_eq_left']
    try simp only [forall_eq]
    subst hB8
    unfold BX6_feed_8
    simp only [T_X6_within, i_const, i_lconst, i_iload, i_aload, i_lload, i_istore, i_astore, i_lstore, i_iinc, i_bin, i_div, i_un, i_i2l, i_l2i, i_lbin, i_lcmp, i_if, i_icmp, i_dup, i_dup_x1, i_dup2, i_pop, i_geti, i_getr, i_getd, i_puti, i_putz, i_putd, i_iald, i_bald, i_aald, i_iast, i_bast, i_alen, i_keep, i_ret, i_retz, i_reta, i_retl, i_retv, i_callv, i_callk, i_calls, i_mm, i_copy, i_under, i_undld, i_ldcs, i_sw, q_swc0, q_swc1, q_lg0, q_lg1, q_lent0, q_lent1, lset, lset2, q_lins0, q_lins1, q_ldel0, q_ldel1, q_ldel20, q_ldel21, q_lkeep0, q_lkeep1, q_memb0, q_memb1, cat2, Nat.reduceBEq, decide_true, decide_false, decide_eq_true_eq, cond_true, cond_false, Bool.and_true, Bool.and_false, Bool.true_and, Bool.false_and, f_iadd, f_isub, f_imul, f_ishl, f_ishr, f_iushr, f_iand, f_ior, f_idiv, f_irem, f_ineg, f_i2b, f_i2s, f_ladd, f_lmul, c_eq, c_ne, c_lt, c_ge, c_gt, c_le, cc_eq, cc_ne, cc_lt, cc_ge, cc_gt, cc_le, rfo, aof, csum, Value.category, List.take, List.drop, List.reverse, List.reverseAux, List.map, List.sum_cons, List.sum_nil, List.cons_append, List.nil_append, Option.toList, List.mem_cons, List.not_mem_nil, List.length_cons, List.length_nil, reduceIte, Nat.reduceEqDiff, Nat.reduceAdd, Nat.reduceLeDiff, Nat.reduceLT, a_day, Nat.zero_ne_one, Nat.one_ne_zero, false_and, and_false, true_and, and_true, or_false, false_or, or_true, true_or, not_true_eq_false, not_false_eq_true, Nat.zero_add, Nat.add_zero, Nat.le_refl, Nat.lt_irrefl, Nat.zero_lt_succ, Nat.zero_le, forall_const, List.cons.injEq, Value.int.injEq, Value.ref.injEq, Value.long.injEq, and_assoc, exists_and_left, exists_eq_left']
    try simp only [forall_eq]
    refine ⟨fun z => ?_, fun z => hb (b2n (Decidable.not_not.mp z))⟩
    have c := b2t z
    rw [h10, nI_1, nI_clamp (by omega)]
    refine ⟨m_76 hg, fun y => ⟨m_76 hg, m_76 hg, m_76 hg, ?_⟩, fun y => ?_⟩
    · have hlt : n < 160 := by
        rcases Nat.lt_or_ge n 160 with q | q
        · exact q
        · exact absurd (by rw [show n = 160 by omega]; rfl) y
      refine ⟨m_84 hg, vm l_84 hlt (by decide), m_76 hg, ?_⟩
      rw [ms_q (by decide), ms_s]
      exact h c hlt
    · exact hf c ((nI_eq (b := 160) (by omega) (by decide)).mp (Decidable.not_not.mp y))
def T_X6_force (g : WG) (as : List Value) (M : MM) (Q : Option Value → MM → Prop) : Prop := ∃ x n, as = [.ref 76, .int x] ∧ M 76 12 = nI n ∧ n < 100 ∧ (¬ (0 ≤ x ∧ x < nI n) → Q (some (.int (-2))) M) ∧ ((0 ≤ x ∧ x < nI n) → Q (some (.int (M 76 9))) (mset M 76 9 x))
set_option maxRecDepth 100000 in
set_option maxHeartbeats 1000000 in
theorem t_X6_force {l : Launch} {g : WG} (hg : Full g) : Ct l g yX6_force cX6_force 3 ((Option.some FieldType.int)) 2 (T_X6_force g) := by
  refine Ct.of (by decide) (fun as M Q h => ?_) (fun p e s m args below meth c as M Q h C => ?_)
  · obtain ⟨x, n, rfl, h12, hn, hb, h⟩ := h; exact ⟨by simp, by simp [Value.category]⟩
  · obtain ⟨x, n, rfl, h12, hn, hb, h⟩ := h
    refine s_of (fun lv st M0 hs => ?_) (WX6_force_0 C (t_X6_within hg) (by decide))
    obtain ⟨rfl, rfl, rfl⟩ := hs
    unfold BX6_force_0
    generalize hB11 : BX6_force_11 g Q (T_X6_within g) = B11
    simp only [T_X6_within, i_const, i_lconst, i_iload, i_aload, i_lload, i_istore, i_astore, i_lstore, i_iinc, i_bin, i_div, i_un, i_i2l, i_l2i, i_lbin, i_lcmp, i_if, i_icmp, i_dup, i_dup_x1, i_dup2, i_pop, i_geti, i_getr, i_getd, i_puti, i_putz, i_putd, i_iald, i_bald, i_aald, i_iast, i_bast, i_alen, i_keep, i_ret, i_retz, i_reta, i_retl, i_retv, i_callv, i_callk, i_calls, i_mm, i_copy, i_under, i_undld, i_ldcs, i_sw, q_swc0, q_swc1, q_lg0, q_lg1, q_lent0, q_lent1, lset, lset2, q_lins0, q_lins1, q_ldel0, q_ldel1, q_ldel20, q_ldel21, q_lkeep0, q_lkeep1, q_memb0, q_memb1, cat2, Nat.reduceBEq, decide_true, decide_false, decide_eq_true_eq, cond_true, cond_false, Bool.and_true, Bool.and_false, Bool.true_and, Bool.false_and, f_iadd, f_isub, f_imul, f_ishl, f_ishr, f_iushr, f_iand, f_ior, f_idiv, f_irem, f_ineg, f_i2b, f_i2s, f_ladd, f_lmul, c_eq, c_ne, c_lt, c_ge, c_gt, c_le, cc_eq, cc_ne, cc_lt, cc_ge, cc_gt, cc_le, rfo, aof, csum, Value.category, List.take, List.drop, List.reverse, List.reverseAux, List.map, List.sum_cons, List.sum_nil, List.cons_append, List.nil_append, Option.toList, List.mem_cons, List.not_mem_nil, List.length_cons, List.length_nil, reduceIte, Nat.reduceEqDiff, Nat.reduceAdd, Nat.reduceLeDiff, Nat.reduceLT, a_day, Nat.zero_ne_one, Nat.one_ne_zero, false_and, and_false, true_and, and_true, or_false, false_or, or_true, true_or, not_true_eq_false, not_false_eq_true, Nat.zero_add, Nat.add_zero, Nat.le_refl, Nat.lt_irrefl, Nat.zero_lt_succ, Nat.zero_le, forall_const, List.cons.injEq, Value.int.injEq, Value.ref.injEq, Value.long.injEq, and_assoc, exists_and_left, exists_eq_left']
    try simp only [forall_eq]
    have e : ∀ {P : Prop}, (P ↔ 0 ≤ x ∧ x < nI n) → True := fun _ => trivial
    rw [h12]
    refine ⟨m_76 hg, ?_⟩
    subst hB11
    unfold BX6_force_11
    simp only [T_X6_within, i_const, i_lconst, i_iload, i_aload, i_lload, i_istore, i_astore, i_lstore, i_iinc, i_bin, i_div, i_un, i_i2l, i_l2i, i_lbin, i_lcmp, i_if, i_icmp, i_dup, i_dup_x1, i_dup2, i_pop, i_geti, i_getr, i_getd, i_puti, i_putz, i_putd, i_iald, i_bald, i_aald, i_iast, i_bast, i_alen, i_keep, i_ret, i_retz, i_reta, i_retl, i_retv, i_callv, i_callk, i_calls, i_mm, i_copy, i_under, i_undld, i_ldcs, i_sw, q_swc0, q_swc1, q_lg0, q_lg1, q_lent0, q_lent1, lset, lset2, q_lins0, q_lins1, q_ldel0, q_ldel1, q_ldel20, q_ldel21, q_lkeep0, q_lkeep1, q_memb0, q_memb1, cat2, Nat.reduceBEq, decide_true, decide_false, decide_eq_true_eq, cond_true, cond_false, Bool.and_true, Bool.and_false, Bool.true_and, Bool.false_and, f_iadd, f_isub, f_imul, f_ishl, f_ishr, f_iushr, f_iand, f_ior, f_idiv, f_irem, f_ineg, f_i2b, f_i2s, f_ladd, f_lmul, c_eq, c_ne, c_lt, c_ge, c_gt, c_le, cc_eq, cc_ne, cc_lt, cc_ge, cc_gt, cc_le, rfo, aof, csum, Value.category, List.take, List.drop, List.reverse, List.reverseAux, List.map, List.sum_cons, List.sum_nil, List.cons_append, List.nil_append, Option.toList, List.mem_cons, List.not_mem_nil, List.length_cons, List.length_nil, reduceIte, Nat.reduceEqDiff, Nat.reduceAdd, Nat.reduceLeDiff, Nat.reduceLT, a_day, Nat.zero_ne_one, Nat.one_ne_zero, false_and, and_false, true_and, and_true, or_false, false_or, or_true, true_or, not_true_eq_false, not_false_eq_true, Nat.zero_add, Nat.add_zero, Nat.le_refl, Nat.lt_irrefl, Nat.zero_lt_succ, Nat.zero_le, forall_const, List.cons.injEq, Value.int.injEq, Value.ref.injEq, Value.long.injEq, and_assoc, exists_and_left, exists_eq_left']
    try simp only [forall_eq]
    refine ⟨fun z => ⟨m_76 hg, m_76 hg, h ⟨(b2t z).1, (lt_pred hn).mp (b2t z).2⟩⟩, fun z => hb (fun q => b2n (Decidable.not_not.mp z) ⟨q.1, (lt_pred hn).mpr q.2⟩)⟩
/-- the image, as a day: the kinds are those that stand now -/
def idm (M : MM) : DV := fun f i => if f = 0 then (if i < 16 then M 97 i else 0) else if f < 7 then (if i < (M 76 39).toNatClampNeg then (if f = 1 then M 78 i else M 98 (6 * (f - 2) + i)) else 0) else if f = 7 then (if i = 0 then M 76 39 else if i = 1 then M 76 40 else if i = 2 then nI (8 + 4 * (M 76 41).toNatClampNeg) else 0) else 0
theorem one0 : ¬ (0 : Int32) = 1 := by decide
def T_X6_image (g : WG) (as : List Value) (M : MM) (Q : Option Value → MM → Prop) : Prop := as = [.ref 76] ∧ okM M ∧ zM M ∧ dn (dm M) ≤ 6 ∧ ∀ M', Sm (fun a b => a = 97 ∨ a = 98 ∨ (a = 76 ∧ 38 ≤ b ∧ b ≤ 41)) M M' → M' 76 38 = 1 → M' 76 39 = M 76 2 → M' 76 41 = M 76 9 → idm M' = dm M → Q (some (.int (M 76 2))) M'
set_option maxRecDepth 100000 in
set_option maxHeartbeats 2000000 in
theorem t_X6_image {l : Launch} {g : WG} (hg : Full g) : Ct l g yX6_image cX6_image 2 ((Option.some FieldType.int)) 1 (T_X6_image g) := by
  refine Ct.of (by decide) (fun as M Q h => ?_) (fun p e s m args below meth c as M Q h C => ?_)
  · obtain ⟨rfl, ho, hz, hn, h⟩ := h; exact ⟨by simp, by simp [Value.category]⟩
  · obtain ⟨rfl, ho, hz, hn, h⟩ := h
    have hmany := ho.many
    obtain ⟨I31, hI31⟩ : ∃ I : Nat → PP, I = (fun n lv st M' => ∃ k, lv = [(0, .ref 76), (1, .int (nI k))] ∧ st = [] ∧ k ≤ 16 ∧ n = 16 - k ∧ Sm (fun a b => a = 97 ∨ a = 98 ∨ (a = 76 ∧ 38 ≤ b ∧ b ≤ 41)) M M' ∧ M' 76 38 = 1 ∧ M' 76 39 = M 76 2 ∧ M' 76 40 = M 76 0 ∧ M' 76 41 = M 76 9 ∧ (∀ j, j < k → M' 97 j = M 77 j)) := ⟨_, rfl⟩
    obtain ⟨E31, hE31⟩ : ∃ E : PP, E = (fun lv st M => ∃ n, I31 n lv st M) := ⟨_, rfl⟩
    have iE31 : ∀ n lv st M, I31 n lv st M → E31 lv st M := fun n lv st M h => by rw [hE31]; exact ⟨n, h⟩
    obtain ⟨I57, hI57⟩ : ∃ I : Nat → PP, I = (fun n lv st M' => ∃ k, lv = [(0, .ref 76), (1, .int (nI k))] ∧ st = [] ∧ k ≤ 6 ∧ n = 6 - k ∧ Sm (fun a b => a = 97 ∨ a = 98 ∨ (a = 76 ∧ 38 ≤ b ∧ b ≤ 41)) M M' ∧ M' 76 38 = 1 ∧ M' 76 39 = M 76 2 ∧ M' 76 40 = M 76 0 ∧ M' 76 41 = M 76 9 ∧ (∀ j, j < 16 → M' 97 j = M 77 j) ∧ (∀ f s, 2 ≤ f → f < 7 → s < k → M' 98 (6 * (f - 2) + s) = M (77 + f) s)) := ⟨_, rfl⟩
    obtain ⟨E57, hE57⟩ : ∃ E : PP, E = (fun lv st M => ∃ n, I57 n lv st M) := ⟨_, rfl⟩
    have iE57 : ∀ n lv st M, I57 n lv st M → E57 lv st M := fun n lv st M h => by rw [hE57]; exact ⟨n, h⟩
    have L57 : Sj p l e 1 s m args below meth c 2 g (MQ below (cQc g Q) args s 0 0 (gA g)) 57 E57 := by
      rw [hE57]
      refine s_ex (s_loop I57 (fun K57 k57 => WX6_image_57 C s_F k57) ?_)
      intro n lv st M1 K57 hK57 hI; rw [hI57] at hI; obtain ⟨k, rfl, rfl, hk, rfl, hs, h38, h39, h40, h41, hj, hv⟩ := hI
      unfold BX6_image_57
      simp only [i_const, i_lconst, i_iload, i_aload, i_lload, i_istore, i_astore, i_lstore, i_iinc, i_bin, i_div, i_un, i_i2l, i_l2i, i_lbin, i_lcmp, i_if, i_icmp, i_dup, i_dup_x1, i_dup2, i_pop, i_geti, i_getr, i_getd, i_puti, i_putz, i_putd, i_iald, i_bald, i_aald, i_iast, i_bast, i_alen, i_keep, i_ret, i_retz, i_reta, i_retl, i_retv, i_callv, i_callk, i_calls, i_mm, i_copy, i_under, i_undld, i_ldcs, i_sw, q_swc0, q_swc1, q_lg0, q_lg1, q_lent0, q_lent1, lset, lset2, q_lins0, q_lins1, q_ldel0, q_ldel1, q_ldel20, q_ldel21, q_lkeep0, q_lkeep1, q_memb0, q_memb1, cat2, Nat.reduceBEq, decide_true, decide_false, decide_eq_true_eq, cond_true, cond_false, Bool.and_true, Bool.and_false, Bool.true_and, Bool.false_and, f_iadd, f_isub, f_imul, f_ishl, f_ishr, f_iushr, f_iand, f_ior, f_idiv, f_irem, f_ineg, f_i2b, f_i2s, f_ladd, f_lmul, c_eq, c_ne, c_lt, c_ge, c_gt, c_le, cc_eq, cc_ne, cc_lt, cc_ge, cc_gt, cc_le, rfo, aof, csum, Value.category, List.take, List.drop, List.reverse, List.reverseAux, List.map, List.sum_cons, List.sum_nil, List.cons_append, List.nil_append, Option.toList, List.mem_cons, List.not_mem_nil, List.length_cons, List.length_nil, reduceIte, Nat.reduceEqDiff, Nat.reduceAdd, Nat.reduceLeDiff, Nat.reduceLT, a_day, Nat.zero_ne_one, Nat.one_ne_zero, false_and, and_false, true_and, and_true, or_false, false_or, or_true, true_or, not_true_eq_false, not_false_eq_true, Nat.zero_add, Nat.add_zero, Nat.le_refl, Nat.lt_irrefl, Nat.zero_lt_succ, Nat.zero_le, forall_const, List.cons.injEq, Value.int.injEq, Value.ref.injEq, Value.long.injEq, and_assoc, exists_and_left, exists_eq_left']
      try simp only [forall_eq]
      rw [show (6 : Int32) = nI 6 from rfl, nI_leI (by decide) (by omega)]
      refine ⟨fun z => ?_, fun z => ?_⟩
      · have : k = 6 := by omega
        subst this
        rw [hs 76 2 (by omega)]
        refine ⟨m_76 hg, h M1 hs h38 h39 h41 ?_⟩
        have hN : (M 76 2).toNatClampNeg = dn (dm M) := (dm_n M).symm
        funext f i
        simp only [idm, dm, h39, h40, h41, hN]
        by_cases h0 : f = 0
        · subst h0
          by_cases hi : i < 16
          · simp [hi, hj i hi]
          · simp [hi]
        · by_cases h7 : f < 7
          · simp only [h0, h7, if_true, if_false]
            by_cases hi : i < dn (dm M)
            · simp only [hi, if_true]
              by_cases h1 : f = 1
              · subst h1; rw [if_pos rfl]; exact hs 78 i (by omega)
              · rw [if_neg h1]; exact hv f i (by omega) h7 (by omega)
            · simp [hi]
          · simp [h0, h7]
      · have hlt : k < 6 := by omega
        rw [show (12 : Int32) = nI 12 from rfl, show (18 : Int32) = nI 18 from rfl, show (24 : Int32) = nI 24 from rfl]
        have n98 : ∀ {j : Nat} {x : Int32} {M : MM} {a b : Nat}, ¬ a = 98 → mset M 98 j x a b = M a b := fun q => ms_q q
        have go : ∀ M2 : MM, Sm (fun a b => a = 98) M1 M2 → (∀ f, 2 ≤ f → f < 7 → M2 98 (6 * (f - 2) + k) = M (77 + f) k) → (∀ j, ¬ (j = k ∨ j = 6 + k ∨ j = 12 + k ∨ j = 18 + k ∨ j = 24 + k) → M2 98 j = M1 98 j) → K57 [(0, .ref 76), (1, .int (nI (k + 1)))] [] M2 := by
          intro M2 hs2 hv2 hx
          refine hK57 (6 - (k + 1)) _ _ _ (by omega) ?_
          rw [hI57]
          refine ⟨k + 1, rfl, rfl, by omega, rfl, hs.tr (hs2.mono fun a b q => Or.inr (Or.inl q)), by rw [hs2 _ _ (by omega)]; exact h38, by rw [hs2 _ _ (by omega)]; exact h39, by rw [hs2 _ _ (by omega)]; exact h40, by rw [hs2 _ _ (by omega)]; exact h41, fun j hj' => by rw [hs2 _ _ (by omega)]; exact hj j hj', fun f s h2 h7 hs' => ?_⟩
          by_cases e : s = k
          · subst e; exact hv2 f h2 h7
          · rw [hx _ (by omega)]; exact hv f s h2 h7 (by omega)
        have q83 : M 83 k = 0 ∨ M 83 k = 1 := hz k (by omega)
        simp only [nI_add, nI_1, nI_clamp (show k < 2 ^ 31 by omega), nI_clamp (show 6 + k < 2 ^ 31 by omega), nI_clamp (show 12 + k < 2 ^ 31 by omega), nI_clamp (show 18 + k < 2 ^ 31 by omega), nI_clamp (show 24 + k < 2 ^ 31 by omega)]
        have a79 : M1 79 k = M 79 k := hs _ _ (by omega)
        have a80 : M1 80 k = M 80 k := hs _ _ (by omega)
        have a81 : M1 81 k = M 81 k := hs _ _ (by omega)
        have a82 : M1 82 k = M 82 k := hs _ _ (by omega)
        have a83 : M1 83 k = M 83 k := hs _ _ (by omega)
        simp only [n98 (show ¬ 80 = 98 by decide), n98 (show ¬ 81 = 98 by decide), n98 (show ¬ 82 = 98 by decide), n98 (show ¬ 83 = 98 by decide), a79, a80, a81, a82, a83]
        have gen : ∀ x, x = M 83 k → K57 [(0, .ref 76), (1, .int (nI (k + 1)))] [] (mset (mset (mset (mset (mset M1 98 k (M 79 k)) 98 (6 + k) (M 80 k)) 98 (12 + k) (M 81 k)) 98 (18 + k) (M 82 k)) 98 (24 + k) x) := by
          intro x hx
          subst hx
          refine go _ ((((((Sm.rf (X := fun a _ => a = 98)).set _ rfl).set _ rfl).set _ rfl).set _ rfl).set _ rfl) (fun f h2 h7 => ?_) (fun j hj' => ?_)
          · have : f = 2 ∨ f = 3 ∨ f = 4 ∨ f = 5 ∨ f = 6 := by omega
            rcases this with rfl | rfl | rfl | rfl | rfl
            · rw [ms_j (by omega), ms_j (by omega), ms_j (by omega), ms_j (by omega)]
              simp [mset_app]
            · rw [ms_j (by omega), ms_j (by omega), ms_j (by omega)]
              simp [mset_app]
            · rw [ms_j (by omega), ms_j (by omega)]
              simp [mset_app]
            · rw [ms_j (by omega)]
              simp [mset_app]
            · simp [mset_app]
          · rw [ms_j (by omega), ms_j (by omega), ms_j (by omega), ms_j (by omega), ms_j (by omega)]
        have v98 : ∀ j, j < 30 → vp_in (nI j) (ln 98) := fun j hj' => vm l_98 hj' (by decide)
        refine ⟨m_76 hg, m_76 hg, m_79 hg, vm l_79 (by omega) (by decide), m_98 hg, v98 _ (by omega), m_76 hg, m_76 hg, m_80 hg, vm l_80 (by omega) (by decide), m_98 hg, v98 _ (by omega), m_76 hg, m_76 hg, m_81 hg, vm l_81 (by omega) (by decide), m_98 hg, v98 _ (by omega), m_76 hg, m_76 hg, m_82 hg, vm l_82 (by omega) (by decide), m_98 hg, v98 _ (by omega), m_76 hg, m_76 hg, m_83 hg, vm l_83 (by omega) (by decide), fun y => ⟨m_98 hg, v98 _ (by omega), gen 0 y.symm⟩, fun y => ⟨m_98 hg, v98 _ (by omega), gen 1 ?_⟩⟩
        rcases q83 with q | q
        · exact absurd q y
        · exact q.symm
      
    have L31 : Sj p l e 1 s m args below meth c 2 g (MQ below (cQc g Q) args s 0 0 (gA g)) 31 E31 := by
      rw [hE31]
      refine s_ex (s_loop I31 (fun K31 k31 => WX6_image_31 C k31 L57) ?_)
      intro n lv st M1 K31 hK31 hI; rw [hI31] at hI; obtain ⟨k, rfl, rfl, hk, rfl, hs, h38, h39, h40, h41, hj⟩ := hI
      unfold BX6_image_31
      simp only [i_const, i_lconst, i_iload, i_aload, i_lload, i_istore, i_astore, i_lstore, i_iinc, i_bin, i_div, i_un, i_i2l, i_l2i, i_lbin, i_lcmp, i_if, i_icmp, i_dup, i_dup_x1, i_dup2, i_pop, i_geti, i_getr, i_getd, i_puti, i_putz, i_putd, i_iald, i_bald, i_aald, i_iast, i_bast, i_alen, i_keep, i_ret, i_retz, i_reta, i_retl, i_retv, i_callv, i_callk, i_calls, i_mm, i_copy, i_under, i_undld, i_ldcs, i_sw, q_swc0, q_swc1, q_lg0, q_lg1, q_lent0, q_lent1, lset, lset2, q_lins0, q_lins1, q_ldel0, q_ldel1, q_ldel20, q_ldel21, q_lkeep0, q_lkeep1, q_memb0, q_memb1, cat2, Nat.reduceBEq, decide_true, decide_false, decide_eq_true_eq, cond_true, cond_false, Bool.and_true, Bool.and_false, Bool.true_and, Bool.false_and, f_iadd, f_isub, f_imul, f_ishl, f_ishr, f_iushr, f_iand, f_ior, f_idiv, f_irem, f_ineg, f_i2b, f_i2s, f_ladd, f_lmul, c_eq, c_ne, c_lt, c_ge, c_gt, c_le, cc_eq, cc_ne, cc_lt, cc_ge, cc_gt, cc_le, rfo, aof, csum, Value.category, List.take, List.drop, List.reverse, List.reverseAux, List.map, List.sum_cons, List.sum_nil, List.cons_append, List.nil_append, Option.toList, List.mem_cons, List.not_mem_nil, List.length_cons, List.length_nil, reduceIte, Nat.reduceEqDiff, Nat.reduceAdd, Nat.reduceLeDiff, Nat.reduceLT, a_day, Nat.zero_ne_one, Nat.one_ne_zero, false_and, and_false, true_and, and_true, or_false, false_or, or_true, true_or, not_true_eq_false, not_false_eq_true, Nat.zero_add, Nat.add_zero, Nat.le_refl, Nat.lt_irrefl, Nat.zero_lt_succ, Nat.zero_le, forall_const, List.cons.injEq, Value.int.injEq, Value.ref.injEq, Value.long.injEq, and_assoc, exists_and_left, exists_eq_left']
      try simp only [forall_eq]
      rw [show (16 : Int32) = nI 16 from rfl, nI_leI (by decide) (by omega)]
      refine ⟨fun z => ?_, fun z => ?_⟩
      · refine iE57 (6 - 0) _ _ _ ?_
        rw [hI57]
        exact ⟨0, rfl, rfl, by omega, rfl, hs, h38, h39, h40, h41, fun j hj' => hj j (by omega), fun f s _ _ hs => absurd hs (by omega)⟩
      · have hlt : k < 16 := by omega
        rw [nI_clamp (by omega), nI_1, hs 77 k (by omega)]
        refine ⟨m_76 hg, m_76 hg, m_77 hg, vm l_77 hlt (by decide), m_97 hg, vm l_97 hlt (by decide), hK31 (16 - (k + 1)) _ _ _ (by omega) ?_⟩
        rw [hI31]
        refine ⟨k + 1, rfl, rfl, by omega, rfl, hs.set _ (by omega), by rw [ms_q (by decide)]; exact h38, by rw [ms_q (by decide)]; exact h39, by rw [ms_q (by decide)]; exact h40, by rw [ms_q (by decide)]; exact h41, fun j hj' => ?_⟩
        by_cases e : j = k
        · subst e; rw [ms_s]
        · rw [ms_j e]; exact hj j (by omega)
    refine s_of (fun lv st M0 hs => ?_) (WX6_image_0 C L31 L57)
    obtain ⟨rfl, rfl, rfl⟩ := hs
    unfold BX6_image_0
    simp only [i_const, i_lconst, i_iload, i_aload, i_lload, i_istore, i_astore, i_lstore, i_iinc, i_bin, i_div, i_un, i_i2l, i_l2i, i_lbin, i_lcmp, i_if, i_icmp, i_dup, i_dup_x1, i_dup2, i_pop, i_geti, i_getr, i_getd, i_puti, i_putz, i_putd, i_iald, i_bald, i_aald, i_iast, i_bast, i_alen, i_keep, i_ret, i_retz, i_reta, i_retl, i_retv, i_callv, i_callk, i_calls, i_mm, i_copy, i_under, i_undld, i_ldcs, i_sw, q_swc0, q_swc1, q_lg0, q_lg1, q_lent0, q_lent1, lset, lset2, q_lins0, q_lins1, q_ldel0, q_ldel1, q_ldel20, q_ldel21, q_lkeep0, q_lkeep1, q_memb0, q_memb1, cat2, Nat.reduceBEq, decide_true, decide_false, decide_eq_true_eq, cond_true, cond_false, Bool.and_true, Bool.and_false, Bool.true_and, Bool.false_and, f_iadd, f_isub, f_imul, f_ishl, f_ishr, f_iushr, f_iand, f_ior, f_idiv, f_irem, f_ineg, f_i2b, f_i2s, f_ladd, f_lmul, c_eq, c_ne, c_lt, c_ge, c_gt, c_le, cc_eq, cc_ne, cc_lt, cc_ge, cc_gt, cc_le, rfo, aof, csum, Value.category, List.take, List.drop, List.reverse, List.reverseAux, List.map, List.sum_cons, List.sum_nil, List.cons_append, List.nil_append, Option.toList, List.mem_cons, List.not_mem_nil, List.length_cons, List.length_nil, reduceIte, Nat.reduceEqDiff, Nat.reduceAdd, Nat.reduceLeDiff, Nat.reduceLT, a_day, Nat.zero_ne_one, Nat.one_ne_zero, false_and, and_false, true_and, and_true, or_false, false_or, or_true, true_or, not_true_eq_false, not_false_eq_true, Nat.zero_add, Nat.add_zero, Nat.le_refl, Nat.lt_irrefl, Nat.zero_lt_succ, Nat.zero_le, forall_const, List.cons.injEq, Value.int.injEq, Value.ref.injEq, Value.long.injEq, and_assoc, exists_and_left, exists_eq_left']
    try simp only [forall_eq]
    simp only [mset_app, if_true, if_false, Nat.reduceEqDiff]
    refine ⟨m_76 hg, m_76 hg, m_76 hg, m_76 hg, m_76 hg, m_76 hg, m_76 hg, iE31 (16 - 0) _ _ _ ?_⟩
    rw [hI31]
    exact ⟨0, rfl, rfl, by omega, rfl, (((Sm.rf.set _ (by omega)).set _ (by omega)).set _ (by omega)).set _ (by omega), by simp [mset_app], by simp [mset_app], by simp [mset_app], by simp [mset_app], fun j hj => absurd hj (by omega)⟩
