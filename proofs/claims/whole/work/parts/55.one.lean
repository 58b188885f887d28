/-! ===== the class's reader: one; all together ===== -/
/-- one token, one code -/
theorem GdO.one {M : MM} {G : Nat → List Int32 → Prop} {r m i sz : Nat} {x : Int32} (hT : isT r) (hR : RSt M r m i sz (-1)) (hi : i < m) (hx : isN x 10015) (hd : ∀ n, dst (tr x) n = some (n + 1)) (hG : G (i + 1) [x]) :
    sz < 160 ∧ GdO G M (mset (mset (mset M 3 6 (nI (i + 1))) (r + 1) sz (tr x)) r 4 (nI (sz + 1))) r m i sz := by
  have h8 := isT_8 hT
  obtain ⟨hR2, hs2⟩ := hR.go hT hi
  have hm := hR.1.2.1
  have hszi : sz ≤ i := hR.2.2.2.2.2.2.1 rfl
  refine ⟨by omega, hs2.tr (add_S _ _ _ _), i + 1, [x], by omega, hR2.add hT (tr x) (by omega) (fun _ => by omega), by simp, fun q hq => ?_, fun q y hy => ?_, wfc_1 hx hd, hG⟩
  · rw [ms_q (by omega), ms_j (by omega), ms_q (by omega)]
  · rw [ms_q (by omega)]
    have e : q = 0 := by
      rcases Nat.eq_zero_or_pos q with z | z
      · exact z
      · rw [List.getElem?_eq_none (by simp; omega)] at hy; cases hy
    subst e
    simp at hy
    subst hy
    exact ms_s (mset M 3 6 (nI (i + 1))) (r + 1) sz (tr x)
set_option maxRecDepth 100000 in
set_option maxHeartbeats 4000000 in
theorem u_X3_one {l : Launch} {g : WG} (hr : Reg g 3 32) (k : Nat) (ih_X3_one : Ct l g yX3_one cX3_one 5 ((Option.none : Option FieldType)) (8 * k + 0) (U_X3_one k g)) (ih_X3_either : Ct l g yX3_either cX3_either 4 ((Option.none : Option FieldType)) (8 * k + 6) (U_X3_either k g)) : Ct l g yX3_one cX3_one 5 ((Option.none : Option FieldType)) (8 * (k + 1) + 0) (U_X3_one (k + 1) g) := by
  refine Ct.of (by decide) (fun as M Q h => ?_) (fun p e s m args below meth c as M Q h C => ?_)
  · obtain ⟨r, op, m', i, sz, f, rfl, hT, hop, hk, hR, h⟩ := h; exact ⟨by simp, by simp [Value.category]⟩
  · obtain ⟨r, op, m', i, sz, f, rfl, hT, hop, hk, hR, h⟩ := h
    refine s_of (fun lv st M0 hs => ?_) (WX3_one_0 C (t_X3_go hr) (by omega) (t_X4_add hr) (by omega) (t_X4_stepOfFact hr) (by omega) ih_X3_one (by omega) (t_X3_fail hr) (by omega) ih_X3_either (by omega) (t_X3_expect hr) (by omega))
    obtain ⟨rfl, rfl, rfl⟩ := hs
    unfold BX3_one_0
    generalize hB30 : BX3_one_30 g Q (T_X3_go g) (T_X4_add g) (T_X4_stepOfFact g) (U_X3_one k g) (T_X3_fail g) (U_X3_either k g) (T_X3_expect g) = B30
    generalize hB48 : BX3_one_48 g Q (T_X3_go g) (T_X4_add g) (T_X4_stepOfFact g) (U_X3_one k g) (T_X3_fail g) (U_X3_either k g) (T_X3_expect g) = B48
    generalize hB75 : BX3_one_75 g Q (T_X3_go g) (T_X4_add g) (T_X4_stepOfFact g) (U_X3_one k g) (T_X3_fail g) (U_X3_either k g) (T_X3_expect g) = B75
    generalize hB92 : BX3_one_92 g Q (T_X3_go g) (T_X4_add g) (T_X4_stepOfFact g) (U_X3_one k g) (T_X3_fail g) (U_X3_either k g) (T_X3_expect g) = B92
    simp only [T_X3_go, T_X4_add, T_X4_stepOfFact, U_X3_one, T_X3_fail, U_X3_either, T_X3_expect, i_const, i_lconst, i_iload, i_aload, i_lload, i_istore, i_astore, i_lstore, i_iinc, i_bin, i_div, i_un, i_i2l, i_l2i, i_lbin, i_lcmp, i_if, i_icmp, i_dup, i_dup_x1, i_dup2, i_pop, i_geti, i_getr, i_getd, i_puti, i_putz, i_putd, i_iald, i_bald, i_aald, i_iast, i_bast, i_alen, i_keep, i_ret, i_retz, i_reta, i_retl, i_retv, i_callv, i_callk, i_calls, i_mm, i_copy, i_under, i_undld, i_ldcs, i_sw, q_swc0, q_swc1, q_lg0, q_lg1, q_lent0, q_lent1, lset, lset2, q_lins0, q_lins1, q_ldel0, q_ldel1, q_ldel20, q_ldel21, q_lkeep0, q_lkeep1, q_memb0, q_memb1, cat2, Nat.reduceBEq, decide_true, decide_false, decide_eq_true_eq, cond_true, cond_false, Bool.and_true, Bool.and_false, Bool.true_and, Bool.false_and, f_iadd, f_isub, f_imul, f_ishl, f_ishr, f_iushr, f_iand, f_ior, f_idiv, f_irem, f_ineg, f_i2b, f_i2s, f_ladd, f_lmul, c_eq, c_ne, c_lt, c_ge, c_gt, c_le, cc_eq, cc_ne, cc_lt, cc_ge, cc_gt, cc_le, rfo, aof, csum, Value.category, List.take, List.drop, List.reverse, List.reverseAux, List.map, List.sum_cons, List.sum_nil, List.cons_append, List.nil_append, Option.toList, List.mem_cons, List.not_mem_nil, List.length_cons, List.length_nil, reduceIte, Nat.reduceEqDiff, Nat.reduceAdd, Nat.reduceLeDiff, Nat.reduceLT, a_day, Nat.zero_ne_one, Nat.one_ne_zero, false_and, and_false, true_and, and_true, or_false, false_or, or_true, true_or, not_true_eq_false, not_false_eq_true, Nat.zero_add, Nat.add_zero, Nat.le_refl, Nat.lt_irrefl, Nat.zero_lt_succ, Nat.zero_le, forall_const, List.cons.injEq, Value.int.injEq, Value.ref.injEq, Value.long.injEq, and_assoc, exists_and_left, exists_eq_left']
    try simp only [forall_eq]
    have h8 := isT_8 hT
    obtain ⟨S, hS⟩ : ∃ S, M0 5 = S := ⟨_, rfl⟩
    obtain ⟨V, hV⟩ : ∃ V, M0 6 = V := ⟨_, rfl⟩
    rw [hS, hV] at h
    have hm := hR.1.2.1
    have him := hR.2.2.1
    have h50 : S m' = 0 := by rw [← hS]; exact hR.1.2.2.1
    have tx := text_ok hr hT
    have hvals := hR.1.2.2.2.1
    rw [hS, hV] at hvals
    rw [hR.2.1, nI_clamp (by omega), hS, hV, show (5 : Int32) = nI 5 from rfl, nI_leI (a := 5) (by decide) (by omega)]
    have lt : ∀ c : Int32, ¬ c = 0 → S i = c → i < m' := fun c hc e => by
      rcases Nat.lt_or_ge i m' with w | w
      · exact w
      · have : i = m' := by omega
        rw [this, h50] at e; exact absurd e.symm hc
    have fm1 : i < m' → f = -1 := fun hl => Decidable.byContradiction fun q => by have := hR.2.2.2.2.2.2.2 q; omega
    have bad : (¬ S i = 2 ∧ ¬ S i = 3) → ¬ ((S i = 45 ∨ S i = 40) ∧ ¬ op = 5) → T_X3_fail g [.ref 3] M0 Q := by
      intro b1 b2
      refine ⟨m', i, rfl, hR.1.1, hR.2.1, hm, him, fun w => ?_, fun w => ?_⟩
      · have hf : f = -1 := hR.2.2.2.1.symm.trans w
        subst hf
        exact h _ (Or.inl (hR.fail hT (one_bad b1 b2)))
      · have hf : ¬ f = -1 := fun q => w (hR.2.2.2.1.trans q)
        obtain ⟨hR2, hs2⟩ := hR.fail2 hT hf
        exact h _ (Or.inl ⟨hs2, f, sz, hR2, hf, fun _ => rfl, fun q => absurd q hf⟩)
    have g92 : (¬ S i = 2 ∧ ¬ S i = 3) → ¬ (S i = 45 ∧ ¬ op = 5) → BX3_one_92 g Q (T_X3_go g) (T_X4_add g) (T_X4_stepOfFact g) (U_X3_one k g) (T_X3_fail g) (U_X3_either k g) (T_X3_expect g) [(0, .ref 3), (1, .ref r), (2, .int (nI op)), (3, .int (S i)), (4, .int (V i))] [] M0 := by
      intro b1 b2
      unfold BX3_one_92
      generalize hB107 : BX3_one_107 g Q (T_X3_go g) (T_X4_add g) (T_X4_stepOfFact g) (U_X3_one k g) (T_X3_fail g) (U_X3_either k g) (T_X3_expect g) = B107
      simp only [T_X3_go, i_const, i_lconst, i_iload, i_aload, i_lload, i_istore, i_astore, i_lstore, i_iinc, i_bin, i_div, i_un, i_i2l, i_l2i, i_lbin, i_lcmp, i_if, i_icmp, i_dup, i_dup_x1, i_dup2, i_pop, i_geti, i_getr, i_getd, i_puti, i_putz, i_putd, i_iald, i_bald, i_aald, i_iast, i_bast, i_alen, i_keep, i_ret, i_retz, i_reta, i_retl, i_retv, i_callv, i_callk, i_calls, i_mm, i_copy, i_under, i_undld, i_ldcs, i_sw, q_swc0, q_swc1, q_lg0, q_lg1, q_lent0, q_lent1, lset, lset2, q_lins0, q_lins1, q_ldel0, q_ldel1, q_ldel20, q_ldel21, q_lkeep0, q_lkeep1, q_memb0, q_memb1, cat2, Nat.reduceBEq, decide_true, decide_false, decide_eq_true_eq, cond_true, cond_false, Bool.and_true, Bool.and_false, Bool.true_and, Bool.false_and, f_iadd, f_isub, f_imul, f_ishl, f_ishr, f_iushr, f_iand, f_ior, f_idiv, f_irem, f_ineg, f_i2b, f_i2s, f_ladd, f_lmul, c_eq, c_ne, c_lt, c_ge, c_gt, c_le, cc_eq, cc_ne, cc_lt, cc_ge, cc_gt, cc_le, rfo, aof, csum, Value.category, List.take, List.drop, List.reverse, List.reverseAux, List.map, List.sum_cons, List.sum_nil, List.cons_append, List.nil_append, Option.toList, List.mem_cons, List.not_mem_nil, List.length_cons, List.length_nil, reduceIte, Nat.reduceEqDiff, Nat.reduceAdd, Nat.reduceLeDiff, Nat.reduceLT, a_day, Nat.zero_ne_one, Nat.one_ne_zero, false_and, and_false, true_and, and_true, or_false, false_or, or_true, true_or, not_true_eq_false, not_false_eq_true, Nat.zero_add, Nat.add_zero, Nat.le_refl, Nat.lt_irrefl, Nat.zero_lt_succ, Nat.zero_le, forall_const, List.cons.injEq, Value.int.injEq, Value.ref.injEq, Value.long.injEq, and_assoc, exists_and_left, exists_eq_left']
      rw [show (5 : Int32) = nI 5 from rfl, nI_leI (a := 5) (by decide) (by omega)]
      refine ⟨fun y => ⟨(r_3 hr).1, (r_3 hr).2.1, bad b1 (fun q => q.1.elim (fun w => b2 ⟨w, q.2⟩) y)⟩, fun y => ⟨fun u => ⟨(r_3 hr).1, (r_3 hr).2.1, bad b1 (fun q => q.2 (by omega))⟩, fun u => ?_⟩⟩
      have y := Decidable.not_not.mp y
      have hil := lt 40 (by decide) y
      have hf := fm1 hil
      subst hf
      have hszi : sz ≤ i := hR.2.2.2.2.2.2.1 rfl
      refine ⟨(r_3 hr).1, (r_3 hr).2.1, m', hR.1.1, i, hR.2.1, hm, him, fun _ => ?_, fun w => by omega⟩
      obtain ⟨hR2, hs2⟩ := hR.go hT hil
      have e52 : mset M0 3 6 (nI (i + 1)) 5 = S := by rw [YP_row hT hs2 5 (by omega), hS]
      have e62 : mset M0 3 6 (nI (i + 1)) 6 = V := by rw [YP_row hT hs2 6 (by omega), hV]
      subst hB107
      unfold BX3_one_107
      generalize hB115 : BX3_one_115 g Q (T_X3_go g) (T_X4_add g) (T_X4_stepOfFact g) (U_X3_one k g) (T_X3_fail g) (U_X3_either k g) (T_X3_expect g) = B115
      simp only [T_X3_go, T_X4_add, T_X4_stepOfFact, U_X3_one, T_X3_fail, U_X3_either, T_X3_expect, i_const, i_lconst, i_iload, i_aload, i_lload, i_istore, i_astore, i_lstore, i_iinc, i_bin, i_div, i_un, i_i2l, i_l2i, i_lbin, i_lcmp, i_if, i_icmp, i_dup, i_dup_x1, i_dup2, i_pop, i_geti, i_getr, i_getd, i_puti, i_putz, i_putd, i_iald, i_bald, i_aald, i_iast, i_bast, i_alen, i_keep, i_ret, i_retz, i_reta, i_retl, i_retv, i_callv, i_callk, i_calls, i_mm, i_copy, i_under, i_undld, i_ldcs, i_sw, q_swc0, q_swc1, q_lg0, q_lg1, q_lent0, q_lent1, lset, lset2, q_lins0, q_lins1, q_ldel0, q_ldel1, q_ldel20, q_ldel21, q_lkeep0, q_lkeep1, q_memb0, q_memb1, cat2, Nat.reduceBEq, decide_true, decide_false, decide_eq_true_eq, cond_true, cond_false, Bool.and_true, Bool.and_false, Bool.true_and, Bool.false_and, f_iadd, f_isub, f_imul, f_ishl, f_ishr, f_iushr, f_iand, f_ior, f_idiv, f_irem, f_ineg, f_i2b, f_i2s, f_ladd, f_lmul, c_eq, c_ne, c_lt, c_ge, c_gt, c_le, cc_eq, cc_ne, cc_lt, cc_ge, cc_gt, cc_le, rfo, aof, csum, Value.category, List.take, List.drop, List.reverse, List.reverseAux, List.map, List.sum_cons, List.sum_nil, List.cons_append, List.nil_append, Option.toList, List.mem_cons, List.not_mem_nil, List.length_cons, List.length_nil, reduceIte, Nat.reduceEqDiff, Nat.reduceAdd, Nat.reduceLeDiff, Nat.reduceLT, a_day, Nat.zero_ne_one, Nat.one_ne_zero, false_and, and_false, true_and, and_true, or_false, false_or, or_true, true_or, not_true_eq_false, not_false_eq_true, Nat.zero_add, Nat.add_zero, Nat.le_refl, Nat.lt_irrefl, Nat.zero_lt_succ, Nat.zero_le, forall_const, List.cons.injEq, Value.int.injEq, Value.ref.injEq, Value.long.injEq, and_assoc, exists_and_left, exists_eq_left']
      try simp only [forall_eq]
      rw [nI_1]
      refine ⟨(r_3 hr).1, (r_3 hr).2.1, r, op + 1, m', i + 1, sz, -1, rfl, hT, by omega, by omega, hR2, fun M3 hM3 => ?_⟩
      rw [e52, e62] at hM3
      subst hB115
      unfold BX3_one_115
      simp only [T_X3_expect, i_const, i_lconst, i_iload, i_aload, i_lload, i_istore, i_astore, i_lstore, i_iinc, i_bin, i_div, i_un, i_i2l, i_l2i, i_lbin, i_lcmp, i_if, i_icmp, i_dup, i_dup_x1, i_dup2, i_pop, i_geti, i_getr, i_getd, i_puti, i_putz, i_putd, i_iald, i_bald, i_aald, i_iast, i_bast, i_alen, i_keep, i_ret, i_retz, i_reta, i_retl, i_retv, i_callv, i_callk, i_calls, i_mm, i_copy, i_under, i_undld, i_ldcs, i_sw, q_swc0, q_swc1, q_lg0, q_lg1, q_lent0, q_lent1, lset, lset2, q_lins0, q_lins1, q_ldel0, q_ldel1, q_ldel20, q_ldel21, q_lkeep0, q_lkeep1, q_memb0, q_memb1, cat2, Nat.reduceBEq, decide_true, decide_false, decide_eq_true_eq, cond_true, cond_false, Bool.and_true, Bool.and_false, Bool.true_and, Bool.false_and, f_iadd, f_isub, f_imul, f_ishl, f_ishr, f_iushr, f_iand, f_ior, f_idiv, f_irem, f_ineg, f_i2b, f_i2s, f_ladd, f_lmul, c_eq, c_ne, c_lt, c_ge, c_gt, c_le, cc_eq, cc_ne, cc_lt, cc_ge, cc_gt, cc_le, rfo, aof, csum, Value.category, List.take, List.drop, List.reverse, List.reverseAux, List.map, List.sum_cons, List.sum_nil, List.cons_append, List.nil_append, Option.toList, List.mem_cons, List.not_mem_nil, List.length_cons, List.length_nil, reduceIte, Nat.reduceEqDiff, Nat.reduceAdd, Nat.reduceLeDiff, Nat.reduceLT, a_day, Nat.zero_ne_one, Nat.one_ne_zero, false_and, and_false, true_and, and_true, or_false, false_or, or_true, true_or, not_true_eq_false, not_false_eq_true, Nat.zero_add, Nat.add_zero, Nat.le_refl, Nat.lt_irrefl, Nat.zero_lt_succ, Nat.zero_le, forall_const, List.cons.injEq, Value.int.injEq, Value.ref.injEq, Value.long.injEq, and_assoc, exists_and_left, exists_eq_left']
      rcases hM3 with hfl3 | ⟨-, hgd3⟩
      · have hflA : FlO (F1 S V op i) M0 M3 r m' i (-1) := by
          obtain ⟨hs3, f3, sz3, hR3, g1, g2, g3⟩ := hfl3
          refine ⟨hs2.tr hs3, f3, sz3, hR3, g1, fun w => absurd rfl w, fun _ => ?_⟩
          obtain ⟨k', hk1, hk2, hF, hfe⟩ := g3 rfl
          refine ⟨k', by omega, hk2, one_fpar y (by omega) (by omega) hF, ?_⟩
          rw [hfe, YP_row hT hs2 7 (by omega)]
        obtain ⟨f3, sz3, hR3, hf3⟩ := hflA.st
        have e5 : M3 5 = S := by rw [YP_row hT hflA.1 5 (by omega), hS]
        obtain ⟨hR4, hs4⟩ := hR3.fail2 hT hf3
        exact ⟨(r_3 hr).1, (r_3 hr).2.1, m', hR3.1.1, m', hR3.2.1, hm, Nat.le_refl _, fun q => by rw [e5, h50] at q; exact absurd q (by decide), fun q => by rw [e5, h50] at q; exact absurd q (by decide), fun _ w => absurd (hR3.2.2.2.1.symm.trans w) hf3, fun _ _ => h _ (Or.inl (hflA.next hR3 hs4 hR4))⟩
      · obtain ⟨hs3, j2, c2, hj2, hR3, hcl2, gq, gq2, hw2, hG2, hfo2⟩ := hgd3
        have hj2m := hR3.2.2.1
        have e5 : M3 5 = S := by rw [YP_row hT hs3 5 (by omega), e52]
        rw [← e5] at hG2 hfo2
        refine ⟨(r_3 hr).1, (r_3 hr).2.1, m', hR3.1.1, j2, hR3.2.1, hm, hj2m, fun q w => ?_, fun q w => ?_, fun q w => ?_, fun q w => absurd hR3.2.2.2.1 w⟩
        · obtain ⟨hR4, hs4⟩ := hR3.go hT w
          refine h _ (Or.inr ⟨rfl, (hs2.tr hs3).tr hs4, j2 + 1, c2, by omega, hR4, by omega, fun q hq => ?_, fun q x hx => ?_, hw2, ?_⟩)
          · rw [ms_q (by omega), gq q hq, ms_q (by omega)]
          · rw [ms_q (by omega)]; exact gq2 q x hx
          · rw [e5] at q hG2
            exact one_par y (by omega) (by omega) q hG2
        · rw [w, e5, h50] at q; exact absurd q (by decide)
        · have hfl := hR3.fail hT (F := F1 S V op i) (by
            rw [e5] at q hG2 hfo2
            exact one_mis y (by omega) (by omega) q hfo2 hG2)
          obtain ⟨hs5, f5, sz5, hR5, p1, p2, p3⟩ := hfl
          refine h _ (Or.inl ⟨(hs2.tr hs3).tr hs5, f5, sz5, hR5, p1, fun w => absurd rfl w, fun _ => ?_⟩)
          obtain ⟨k', hk1, hk2, hF, hfe⟩ := p3 rfl
          exact ⟨k', by omega, hk2, hF, by rw [hfe, YP_row hT hs3 7 (by omega), YP_row hT hs2 7 (by omega)]⟩
    refine ⟨r_3 hr, r_3 hr, r_5 hr, v_5 hm him, r_3 hr, r_3 hr, r_6 hr, vp_in_nI (n := i) (N := 161) (by omega) (by decide), fun y => ⟨fun u => ⟨fun w => ?_, fun w => ⟨fun x => ?_, fun x => ?_⟩⟩, fun u => ?_⟩, fun y => ?_⟩
    · subst hB92; exact g92 ⟨y, u⟩ (fun q => w q.1)
    · subst hB92; exact g92 ⟨y, u⟩ (fun q => q.2 (by omega))
    · have w := Decidable.not_not.mp w
      have hil := lt 45 (by decide) w
      have hf := fm1 hil
      subst hf
      have hszi : sz ≤ i := hR.2.2.2.2.2.2.1 rfl
      refine ⟨(r_3 hr).1, (r_3 hr).2.1, m', hR.1.1, i, rfl, hm, him, fun _ => ?_, fun w => by omega⟩
      obtain ⟨hR2, hs2⟩ := hR.go hT hil
      have e52 : mset M0 3 6 (nI (i + 1)) 5 = S := by rw [YP_row hT hs2 5 (by omega), hS]
      have e62 : mset M0 3 6 (nI (i + 1)) 6 = V := by rw [YP_row hT hs2 6 (by omega), hV]
      subst hB75
      unfold BX3_one_75
      generalize hB83 : BX3_one_83 g Q (T_X3_go g) (T_X4_add g) (T_X4_stepOfFact g) (U_X3_one k g) (T_X3_fail g) (U_X3_either k g) (T_X3_expect g) = B83
      simp only [T_X3_go, T_X4_add, T_X4_stepOfFact, U_X3_one, T_X3_fail, U_X3_either, T_X3_expect, i_const, i_lconst, i_iload, i_aload, i_lload, i_istore, i_astore, i_lstore, i_iinc, i_bin, i_div, i_un, i_i2l, i_l2i, i_lbin, i_lcmp, i_if, i_icmp, i_dup, i_dup_x1, i_dup2, i_pop, i_geti, i_getr, i_getd, i_puti, i_putz, i_putd, i_iald, i_bald, i_aald, i_iast, i_bast, i_alen, i_keep, i_ret, i_retz, i_reta, i_retl, i_retv, i_callv, i_callk, i_calls, i_mm, i_copy, i_under, i_undld, i_ldcs, i_sw, q_swc0, q_swc1, q_lg0, q_lg1, q_lent0, q_lent1, lset, lset2, q_lins0, q_lins1, q_ldel0, q_ldel1, q_ldel20, q_ldel21, q_lkeep0, q_lkeep1, q_memb0, q_memb1, cat2, Nat.reduceBEq, decide_true, decide_false, decide_eq_true_eq, cond_true, cond_false, Bool.and_true, Bool.and_false, Bool.true_and, Bool.false_and, f_iadd, f_isub, f_imul, f_ishl, f_ishr, f_iushr, f_iand, f_ior, f_idiv, f_irem, f_ineg, f_i2b, f_i2s, f_ladd, f_lmul, c_eq, c_ne, c_lt, c_ge, c_gt, c_le, cc_eq, cc_ne, cc_lt, cc_ge, cc_gt, cc_le, rfo, aof, csum, Value.category, List.take, List.drop, List.reverse, List.reverseAux, List.map, List.sum_cons, List.sum_nil, List.cons_append, List.nil_append, Option.toList, List.mem_cons, List.not_mem_nil, List.length_cons, List.length_nil, reduceIte, Nat.reduceEqDiff, Nat.reduceAdd, Nat.reduceLeDiff, Nat.reduceLT, a_day, Nat.zero_ne_one, Nat.one_ne_zero, false_and, and_false, true_and, and_true, or_false, false_or, or_true, true_or, not_true_eq_false, not_false_eq_true, Nat.zero_add, Nat.add_zero, Nat.le_refl, Nat.lt_irrefl, Nat.zero_lt_succ, Nat.zero_le, forall_const, List.cons.injEq, Value.int.injEq, Value.ref.injEq, Value.long.injEq, and_assoc, exists_and_left, exists_eq_left']
      try simp only [forall_eq]
      rw [nI_1]
      refine ⟨(r_3 hr).1, (r_3 hr).2.1, r, op + 1, m', i + 1, sz, -1, rfl, hT, by omega, by omega, hR2, fun M3 hM3 => ?_⟩
      rw [e52, e62] at hM3
      subst hB83
      unfold BX3_one_83
      simp only [T_X3_go, T_X4_add, T_X4_stepOfFact, U_X3_one, T_X3_fail, U_X3_either, T_X3_expect, i_const, i_lconst, i_iload, i_aload, i_lload, i_istore, i_astore, i_lstore, i_iinc, i_bin, i_div, i_un, i_i2l, i_l2i, i_lbin, i_lcmp, i_if, i_icmp, i_dup, i_dup_x1, i_dup2, i_pop, i_geti, i_getr, i_getd, i_puti, i_putz, i_putd, i_iald, i_bald, i_aald, i_iast, i_bast, i_alen, i_keep, i_ret, i_retz, i_reta, i_retl, i_retv, i_callv, i_callk, i_calls, i_mm, i_copy, i_under, i_undld, i_ldcs, i_sw, q_swc0, q_swc1, q_lg0, q_lg1, q_lent0, q_lent1, lset, lset2, q_lins0, q_lins1, q_ldel0, q_ldel1, q_ldel20, q_ldel21, q_lkeep0, q_lkeep1, q_memb0, q_memb1, cat2, Nat.reduceBEq, decide_true, decide_false, decide_eq_true_eq, cond_true, cond_false, Bool.and_true, Bool.and_false, Bool.true_and, Bool.false_and, f_iadd, f_isub, f_imul, f_ishl, f_ishr, f_iushr, f_iand, f_ior, f_idiv, f_irem, f_ineg, f_i2b, f_i2s, f_ladd, f_lmul, c_eq, c_ne, c_lt, c_ge, c_gt, c_le, cc_eq, cc_ne, cc_lt, cc_ge, cc_gt, cc_le, rfo, aof, csum, Value.category, List.take, List.drop, List.reverse, List.reverseAux, List.map, List.sum_cons, List.sum_nil, List.cons_append, List.nil_append, Option.toList, List.mem_cons, List.not_mem_nil, List.length_cons, List.length_nil, reduceIte, Nat.reduceEqDiff, Nat.reduceAdd, Nat.reduceLeDiff, Nat.reduceLT, a_day, Nat.zero_ne_one, Nat.one_ne_zero, false_and, and_false, true_and, and_true, or_false, false_or, or_true, true_or, not_true_eq_false, not_false_eq_true, Nat.zero_add, Nat.add_zero, Nat.le_refl, Nat.lt_irrefl, Nat.zero_lt_succ, Nat.zero_le, forall_const, List.cons.injEq, Value.int.injEq, Value.ref.injEq, Value.long.injEq, and_assoc, exists_and_left, exists_eq_left']
      try simp only [forall_eq]
      rcases hM3 with hfl3 | ⟨-, hgd3⟩
      · have hflA : FlO (F1 S V op i) M0 M3 r m' i (-1) := by
          obtain ⟨hs3, f3, sz3, hR3, g1, g2, g3⟩ := hfl3
          refine ⟨hs2.tr hs3, f3, sz3, hR3, g1, fun w => absurd rfl w, fun _ => ?_⟩
          obtain ⟨k', hk1, hk2, hF, hfe⟩ := g3 rfl
          refine ⟨k', by omega, hk2, one_fneg w (by omega) (by omega) hF, ?_⟩
          rw [hfe, YP_row hT hs2 7 (by omega)]
        obtain ⟨f3, sz3, hR3, hf3⟩ := hflA.st
        exact ⟨tx.1.1, tx.1.2.1, hT, sz3, hR3.2.2.2.2.1, hR3.2.2.2.2.2.1, fun w => h _ (Or.inl (hflA.add hT _ sz3 hR3.2.2.2.2.1 w)), fun _ => h _ (Or.inl hflA)⟩
      · obtain ⟨hs3, j2, c2, hj2, hR3, hcl2, gq, gq2, hw2, hG2⟩ := hgd3
        obtain ⟨h160, hgo⟩ := GdO.un (G := G1 S V op i) hT (x := 14) (Or.inr rfl) hs2 (fun q => by rw [ms_q (by omega)]) hs3 hj2 hR3 hcl2 gq gq2 hw2 (one_neg w (by omega) (by omega) hG2) hszi
        exact ⟨tx.1.1, tx.1.2.1, hT, sz + c2.length, hR3.2.2.2.2.1, hR3.2.2.2.2.2.1, fun _ => h _ (Or.inr ⟨rfl, hgo⟩), fun w => by omega⟩
    · have u := Decidable.not_not.mp u
      have hil := lt 3 (by decide) u
      have hf := fm1 hil
      subst hf
      refine ⟨(r_3 hr).1, (r_3 hr).2.1, m', hR.1.1, i, rfl, hm, him, fun _ => ?_, fun w => by omega⟩
      obtain ⟨v, hv, ev⟩ := (hvals i hil).2 u
      have etr : tr (V i) = -1 - V i := by
        rw [ev, tr_val v (by omega), if_pos (by omega)]
      obtain ⟨h160, hgo⟩ := GdO.one (G := G1 S V op i) (x := V i) hT hR hil ⟨v, by omega, ev⟩ (fun n => by
        rw [etr, ev]
        have : ∀ v, v < 6 → ¬ (0 : Int32) ≤ -1 - nI v ∧ (-6 : Int32) ≤ -1 - nI v := by decide
        obtain ⟨a, b⟩ := this v hv
        unfold dst
        rw [if_neg a, if_pos b]) (one_n (Or.inr ⟨u, rfl⟩))
      subst hB48
      unfold BX3_one_48
      generalize hB54 : BX3_one_54 g Q (T_X3_go g) (T_X4_add g) (T_X4_stepOfFact g) (U_X3_one k g) (T_X3_fail g) (U_X3_either k g) (T_X3_expect g) = B54
      simp only [T_X3_go, T_X4_add, T_X4_stepOfFact, U_X3_one, T_X3_fail, U_X3_either, T_X3_expect, i_const, i_lconst, i_iload, i_aload, i_lload, i_istore, i_astore, i_lstore, i_iinc, i_bin, i_div, i_un, i_i2l, i_l2i, i_lbin, i_lcmp, i_if, i_icmp, i_dup, i_dup_x1, i_dup2, i_pop, i_geti, i_getr, i_getd, i_puti, i_putz, i_putd, i_iald, i_bald, i_aald, i_iast, i_bast, i_alen, i_keep, i_ret, i_retz, i_reta, i_retl, i_retv, i_callv, i_callk, i_calls, i_mm, i_copy, i_under, i_undld, i_ldcs, i_sw, q_swc0, q_swc1, q_lg0, q_lg1, q_lent0, q_lent1, lset, lset2, q_lins0, q_lins1, q_ldel0, q_ldel1, q_ldel20, q_ldel21, q_lkeep0, q_lkeep1, q_memb0, q_memb1, cat2, Nat.reduceBEq, decide_true, decide_false, decide_eq_true_eq, cond_true, cond_false, Bool.and_true, Bool.and_false, Bool.true_and, Bool.false_and, f_iadd, f_isub, f_imul, f_ishl, f_ishr, f_iushr, f_iand, f_ior, f_idiv, f_irem, f_ineg, f_i2b, f_i2s, f_ladd, f_lmul, c_eq, c_ne, c_lt, c_ge, c_gt, c_le, cc_eq, cc_ne, cc_lt, cc_ge, cc_gt, cc_le, rfo, aof, csum, Value.category, List.take, List.drop, List.reverse, List.reverseAux, List.map, List.sum_cons, List.sum_nil, List.cons_append, List.nil_append, Option.toList, List.mem_cons, List.not_mem_nil, List.length_cons, List.length_nil, reduceIte, Nat.reduceEqDiff, Nat.reduceAdd, Nat.reduceLeDiff, Nat.reduceLT, a_day, Nat.zero_ne_one, Nat.one_ne_zero, false_and, and_false, true_and, and_true, or_false, false_or, or_true, true_or, not_true_eq_false, not_false_eq_true, Nat.zero_add, Nat.add_zero, Nat.le_refl, Nat.lt_irrefl, Nat.zero_lt_succ, Nat.zero_le, forall_const, List.cons.injEq, Value.int.injEq, Value.ref.injEq, Value.long.injEq, and_assoc, exists_and_left, exists_eq_left']
      try simp only [forall_eq]
      subst hB54
      unfold BX3_one_54
      simp only [T_X3_go, T_X4_add, T_X4_stepOfFact, U_X3_one, T_X3_fail, U_X3_either, T_X3_expect, i_const, i_lconst, i_iload, i_aload, i_lload, i_istore, i_astore, i_lstore, i_iinc, i_bin, i_div, i_un, i_i2l, i_l2i, i_lbin, i_lcmp, i_if, i_icmp, i_dup, i_dup_x1, i_dup2, i_pop, i_geti, i_getr, i_getd, i_puti, i_putz, i_putd, i_iald, i_bald, i_aald, i_iast, i_bast, i_alen, i_keep, i_ret, i_retz, i_reta, i_retl, i_retv, i_callv, i_callk, i_calls, i_mm, i_copy, i_under, i_undld, i_ldcs, i_sw, q_swc0, q_swc1, q_lg0, q_lg1, q_lent0, q_lent1, lset, lset2, q_lins0, q_lins1, q_ldel0, q_ldel1, q_ldel20, q_ldel21, q_lkeep0, q_lkeep1, q_memb0, q_memb1, cat2, Nat.reduceBEq, decide_true, decide_false, decide_eq_true_eq, cond_true, cond_false, Bool.and_true, Bool.and_false, Bool.true_and, Bool.false_and, f_iadd, f_isub, f_imul, f_ishl, f_ishr, f_iushr, f_iand, f_ior, f_idiv, f_irem, f_ineg, f_i2b, f_i2s, f_ladd, f_lmul, c_eq, c_ne, c_lt, c_ge, c_gt, c_le, cc_eq, cc_ne, cc_lt, cc_ge, cc_gt, cc_le, rfo, aof, csum, Value.category, List.take, List.drop, List.reverse, List.reverseAux, List.map, List.sum_cons, List.sum_nil, List.cons_append, List.nil_append, Option.toList, List.mem_cons, List.not_mem_nil, List.length_cons, List.length_nil, reduceIte, Nat.reduceEqDiff, Nat.reduceAdd, Nat.reduceLeDiff, Nat.reduceLT, a_day, Nat.zero_ne_one, Nat.one_ne_zero, false_and, and_false, true_and, and_true, or_false, false_or, or_true, true_or, not_true_eq_false, not_false_eq_true, Nat.zero_add, Nat.add_zero, Nat.le_refl, Nat.lt_irrefl, Nat.zero_lt_succ, Nat.zero_le, forall_const, List.cons.injEq, Value.int.injEq, Value.ref.injEq, Value.long.injEq, and_assoc, exists_and_left, exists_eq_left']
      try simp only [forall_eq]
      rw [etr] at hgo
      exact ⟨tx.1.1, tx.1.2.1, hT, sz, by rw [ms_q (by omega)]; exact hR.2.2.2.2.1, by omega, fun _ => h _ (Or.inr ⟨rfl, hgo⟩), fun w => by omega⟩
    · have y := Decidable.not_not.mp y
      have hil := lt 2 (by decide) y
      have hf := fm1 hil
      subst hf
      refine ⟨(r_3 hr).1, (r_3 hr).2.1, m', hR.1.1, i, rfl, hm, him, fun _ => ?_, fun w => by omega⟩
      obtain ⟨v, hv, ev⟩ := (hvals i hil).1 y
      have e15 : (15 : Int32) + V i = nI (15 + v) := by rw [ev, show (15 : Int32) = nI 15 from rfl, nI_add]
      have etr : tr (15 + V i) = V i := by
        rw [e15, tr_big (by omega) (by omega), ev]
        congr 1; omega
      obtain ⟨h160, hgo⟩ := GdO.one (G := G1 S V op i) (x := 15 + V i) hT hR hil ⟨15 + v, by omega, e15⟩ (fun n => by
        rw [etr, ev]
        unfold dst
        rw [if_pos (nI_pos' (by omega))]) (one_n (Or.inl ⟨y, rfl⟩))
      subst hB30
      unfold BX3_one_30
      simp only [T_X3_go, T_X4_add, T_X4_stepOfFact, U_X3_one, T_X3_fail, U_X3_either, T_X3_expect, i_const, i_lconst, i_iload, i_aload, i_lload, i_istore, i_astore, i_lstore, i_iinc, i_bin, i_div, i_un, i_i2l, i_l2i, i_lbin, i_lcmp, i_if, i_icmp, i_dup, i_dup_x1, i_dup2, i_pop, i_geti, i_getr, i_getd, i_puti, i_putz, i_putd, i_iald, i_bald, i_aald, i_iast, i_bast, i_alen, i_keep, i_ret, i_retz, i_reta, i_retl, i_retv, i_callv, i_callk, i_calls, i_mm, i_copy, i_under, i_undld, i_ldcs, i_sw, q_swc0, q_swc1, q_lg0, q_lg1, q_lent0, q_lent1, lset, lset2, q_lins0, q_lins1, q_ldel0, q_ldel1, q_ldel20, q_ldel21, q_lkeep0, q_lkeep1, q_memb0, q_memb1, cat2, Nat.reduceBEq, decide_true, decide_false, decide_eq_true_eq, cond_true, cond_false, Bool.and_true, Bool.and_false, Bool.true_and, Bool.false_and, f_iadd, f_isub, f_imul, f_ishl, f_ishr, f_iushr, f_iand, f_ior, f_idiv, f_irem, f_ineg, f_i2b, f_i2s, f_ladd, f_lmul, c_eq, c_ne, c_lt, c_ge, c_gt, c_le, cc_eq, cc_ne, cc_lt, cc_ge, cc_gt, cc_le, rfo, aof, csum, Value.category, List.take, List.drop, List.reverse, List.reverseAux, List.map, List.sum_cons, List.sum_nil, List.cons_append, List.nil_append, Option.toList, List.mem_cons, List.not_mem_nil, List.length_cons, List.length_nil, reduceIte, Nat.reduceEqDiff, Nat.reduceAdd, Nat.reduceLeDiff, Nat.reduceLT, a_day, Nat.zero_ne_one, Nat.one_ne_zero, false_and, and_false, true_and, and_true, or_false, false_or, or_true, true_or, not_true_eq_false, not_false_eq_true, Nat.zero_add, Nat.add_zero, Nat.le_refl, Nat.lt_irrefl, Nat.zero_lt_succ, Nat.zero_le, forall_const, List.cons.injEq, Value.int.injEq, Value.ref.injEq, Value.long.injEq, and_assoc, exists_and_left, exists_eq_left']
      try simp only [forall_eq]
      rw [etr] at hgo
      exact ⟨tx.1.1, tx.1.2.1, hT, sz, by rw [ms_q (by omega)]; exact hR.2.2.2.2.1, by omega, fun _ => h _ (Or.inr ⟨rfl, hgo⟩), fun w => by omega⟩
theorem Ct_F {l : Launch} {g : WG} {y : MethodName} {cc : ByteArray} {nL d : Nat} {ret : Option FieldType} {T : PT} (h : ∀ as M Q, ¬ T as M Q) : Ct l g y cc nL ret d T := fun as M Q hT => absurd hT (h as M Q)
theorem Ucon_0 {F : SV → SV → Nat → Nat → Nat → Prop} {G : SV → SV → Nat → Nat → Nat → List Int32 → Prop} {as : List Value} {M : MM} {Q : Option Value → MM → Prop} : ¬ Ucon F G 0 as M Q := by
  rintro ⟨r, op, m, i, sz, f, -, -, h5, h6, -⟩
  omega
theorem u_all {l : Launch} {g : WG} (hr : Reg g 3 32) : ∀ k : Nat,
    Ct l g yX3_one cX3_one 5 none (8 * k + 0) (U_X3_one k g) ∧ Ct l g yX3_denial cX3_denial 3 none (8 * k + 4) (U_X3_denial k g) ∧ Ct l g yX3_either cX3_either 4 none (8 * k + 6) (U_X3_either k g)
  | 0 => ⟨Ct_F fun _ _ _ => Ucon_0, Ct_F fun _ _ _ => Ucon_0, Ct_F fun _ _ _ => Ucon_0⟩
  | k + 1 => by
    obtain ⟨i1, i3, ie⟩ := u_all hr k
    have o1 := u_X3_one hr k i1 ie
    have o2 := u_X3_term hr k o1
    have o3 := u_X3_sum hr k o2
    have o4 := u_X3_compared hr k o3
    have o5 := u_X3_denial hr k o4 i3
    have o6 := u_X3_both hr k o5
    exact ⟨o1, o5, u_X3_either hr k o6⟩
def T_X3_either (g : WG) (as : List Value) (M : MM) (Q : Option Value → MM → Prop) : Prop := U_X3_either 6 g as M Q
theorem t_X3_either {l : Launch} {g : WG} (hr : Reg g 3 32) : Ct l g yX3_either cX3_either 4 none 54 (T_X3_either g) := (u_all hr 6).2.2

