/-! ===== the class's reader: sum, compared, denial, one ===== -/
theorem fs_0 : fs 0 := ⟨by decide, by decide, by decide⟩
theorem sg_pm {s : Int32} (h : s = 43 ∨ s = 45) : ∃ sg, (sg = 6 ∨ sg = 7) ∧ rnk sg = 5 ∧ (∀ W, opn (sg :: W) = opn W) ∧ ¬ s = 41 ∧ (∀ cm, sgn s cm = sg) ∧ ¬ sg = -1 ∧ ((¬ s = 43 → tr sg = -18) ∧ (s = 43 → tr sg = -17)) := by
  rcases h with rfl | rfl
  · exact ⟨6, Or.inl rfl, rfl, fun _ => rfl, by decide, fun _ => rfl, by decide, fun q => absurd rfl q, fun _ => rfl⟩
  · exact ⟨7, Or.inr rfl, rfl, fun _ => rfl, by decide, fun _ => rfl, by decide, fun _ => rfl, fun q => absurd q (by decide)⟩
set_option maxRecDepth 100000 in
set_option maxHeartbeats 4000000 in
theorem u_X3_sum {l : Launch} {g : WG} (hr : Reg g 3 32) (k : Nat) (ih_X3_term : Ct l g yX3_term cX3_term 4 ((Option.none : Option FieldType)) (8 * (k + 1) + 1) (U_X3_term (k + 1) g)) : Ct l g yX3_sum cX3_sum 5 ((Option.none : Option FieldType)) (8 * (k + 1) + 2) (U_X3_sum (k + 1) g) := by
  refine Ct.of (by decide) (fun as M Q h => ?_) (fun p e s m args below meth c as M Q h C => ?_)
  · obtain ⟨r, op, m', i, sz, f, rfl, hT, hop, hk, hR, h⟩ := h; exact ⟨by simp, by simp [Value.category]⟩
  · obtain ⟨r, op, m', i, sz, f, rfl, hT, hop, hk, hR, h⟩ := h
    have h8 := isT_8 hT
    obtain ⟨S, hS⟩ : ∃ S, M 5 = S := ⟨_, rfl⟩
    obtain ⟨V, hV⟩ : ∃ V, M 6 = V := ⟨_, rfl⟩
    rw [hS, hV] at h
    have hm := hR.1.2.1
    have h50 : S m' = 0 := by rw [← hS]; exact hR.1.2.2.1
    have tx := text_ok hr hT
    obtain ⟨I8, hI8⟩ : ∃ I : Nat → PP, I = (fun n lv st M' => ∃ t, lv = [(0, .ref 3), (1, .ref r), (2, .int (nI op)), (3, .int (nI t))] ∧ st = [] ∧ t ≤ 160 ∧ n = 161 - t ∧ (FlO (FL 5 S V op i) M M' r m' i f ∨ (f = -1 ∧ GdO (fun j c => GL 5 S V op i j c ∧ ¬ S j = 42 ∧ i + t + 1 ≤ j) M M' r m' i sz))) := ⟨_, rfl⟩
    obtain ⟨E8, hE8⟩ : ∃ E : PP, E = (fun lv st M => ∃ n, I8 n lv st M) := ⟨_, rfl⟩
    have iE8 : ∀ n lv st M, I8 n lv st M → E8 lv st M := fun n lv st M h => by rw [hE8]; exact ⟨n, h⟩
    have L8 : Sj p l e (8 * (k + 1) + 2) s m args below meth c 5 g (MQ below (cQc g Q) args s 0 0 (gA g)) 8 E8 := by
      rw [hE8]
      refine s_ex (s_loop I8 (fun K8 k8 => WX3_sum_8 C ih_X3_term (by omega) (t_X3_go hr) (by omega) (t_X4_add hr) (by omega) k8) ?_)
      intro n lv st M1 K8 hK8 hI; rw [hI8] at hI; obtain ⟨t, rfl, rfl, ht, rfl, hor⟩ := hI
      unfold BX3_sum_8
      generalize hB43 : BX3_sum_43 g Q (U_X3_term (k + 1) g) (T_X3_go g) (T_X4_add g) K8 = B43
      simp only [U_X3_term, T_X3_go, T_X4_add, i_const, i_lconst, i_iload, i_aload, i_lload, i_istore, i_astore, i_lstore, i_iinc, i_bin, i_div, i_un, i_i2l, i_l2i, i_lbin, i_lcmp, i_if, i_icmp, i_dup, i_dup_x1, i_dup2, i_pop, i_geti, i_getr, i_getd, i_puti, i_putz, i_putd, i_iald, i_bald, i_aald, i_iast, i_bast, i_alen, i_keep, i_ret, i_retz, i_reta, i_retl, i_retv, i_callv, i_callk, i_calls, i_mm, i_copy, i_under, i_undld, i_ldcs, i_sw, q_swc0, q_swc1, q_lg0, q_lg1, q_lent0, q_lent1, lset, lset2, q_lins0, q_lins1, q_ldel0, q_ldel1, q_ldel20, q_ldel21, q_lkeep0, q_lkeep1, q_memb0, q_memb1, cat2, Nat.reduceBEq, decide_true, decide_false, decide_eq_true_eq, cond_true, cond_false, Bool.and_true, Bool.and_false, Bool.true_and, Bool.false_and, f_iadd, f_isub, f_imul, f_ishl, f_ishr, f_iushr, f_iand, f_ior, f_idiv, f_irem, f_ineg, f_i2b, f_i2s, f_ladd, f_lmul, c_eq, c_ne, c_lt, c_ge, c_gt, c_le, cc_eq, cc_ne, cc_lt, cc_ge, cc_gt, cc_le, rfo, aof, csum, Value.category, List.take, List.drop, List.reverse, List.reverseAux, List.map, List.sum_cons, List.sum_nil, List.cons_append, List.nil_append, Option.toList, List.mem_cons, List.not_mem_nil, List.length_cons, List.length_nil, reduceIte, Nat.reduceEqDiff, Nat.reduceAdd, Nat.reduceLeDiff, Nat.reduceLT, a_day, Nat.zero_ne_one, Nat.one_ne_zero, false_and, and_false, true_and, and_true, or_false, false_or, or_true, true_or, not_true_eq_false, not_false_eq_true, Nat.zero_add, Nat.add_zero, Nat.le_refl, Nat.lt_irrefl, Nat.zero_lt_succ, Nat.zero_le, forall_const, List.cons.injEq, Value.int.injEq, Value.ref.injEq, Value.long.injEq, and_assoc, exists_and_left, exists_eq_left']
      try simp only [forall_eq]
      rcases hor with hfl | ⟨hf, hgd⟩
      · obtain ⟨f1, sz1, hR1, hf1⟩ := hfl.st
        have e5 : M1 5 = S := by rw [YP_row hT hfl.1 5 (by omega), hS]
        rw [hR1.2.1, nI_clamp (by omega), e5, h50]
        refine ⟨fun _ => h M1 (Or.inl hfl), fun _ => ⟨r_3 hr, r_3 hr, r_5 hr, v_5 hm (Nat.le_refl _), fun q => absurd q (by decide), fun _ => ⟨r_3 hr, r_3 hr, r_5 hr, v_5 hm (Nat.le_refl _), fun _ => h M1 (Or.inl hfl), fun q => absurd (by decide) q⟩⟩⟩
      · obtain ⟨hs1, j, c1, hj, hR1, hcl, hq, hq2, hw, hG, hpt, htj⟩ := hgd
        have hjm := hR1.2.2.1
        have e5 : M1 5 = S := by rw [YP_row hT hs1 5 (by omega), hS]
        have e6 : M1 6 = V := by rw [YP_row hT hs1 6 (by omega), hV]
        have go : (S j = 43 ∨ S j = 45) → BX3_sum_43 g Q (U_X3_term (k + 1) g) (T_X3_go g) (T_X4_add g) K8 [(0, .ref 3), (1, .ref r), (2, .int (nI op)), (3, .int (nI t))] [] M1 := by
          intro hSj
          obtain ⟨sg, hsg, hrk, hop', h41, hsn, hne, htr1, htr2⟩ := sg_pm hSj
          have hjl : j < m' := by
            rcases Nat.lt_or_ge j m' with w | w
            · exact w
            · have : j = m' := by omega
              rw [this, h50] at hSj; exact absurd hSj (by decide)
          obtain ⟨hR2, hs2⟩ := hR1.go hT hjl
          have hszi : sz ≤ i := hR.2.2.2.2.2.2.1 hf
          unfold BX3_sum_43
          generalize hB58 : BX3_sum_58 g Q (U_X3_term (k + 1) g) (T_X3_go g) (T_X4_add g) K8 = B58
          simp only [T_X3_go, i_const, i_lconst, i_iload, i_aload, i_lload, i_istore, i_astore, i_lstore, i_iinc, i_bin, i_div, i_un, i_i2l, i_l2i, i_lbin, i_lcmp, i_if, i_icmp, i_dup, i_dup_x1, i_dup2, i_pop, i_geti, i_getr, i_getd, i_puti, i_putz, i_putd, i_iald, i_bald, i_aald, i_iast, i_bast, i_alen, i_keep, i_ret, i_retz, i_reta, i_retl, i_retv, i_callv, i_callk, i_calls, i_mm, i_copy, i_under, i_undld, i_ldcs, i_sw, q_swc0, q_swc1, q_lg0, q_lg1, q_lent0, q_lent1, lset, lset2, q_lins0, q_lins1, q_ldel0, q_ldel1, q_ldel20, q_ldel21, q_lkeep0, q_lkeep1, q_memb0, q_memb1, cat2, Nat.reduceBEq, decide_true, decide_false, decide_eq_true_eq, cond_true, cond_false, Bool.and_true, Bool.and_false, Bool.true_and, Bool.false_and, f_iadd, f_isub, f_imul, f_ishl, f_ishr, f_iushr, f_iand, f_ior, f_idiv, f_irem, f_ineg, f_i2b, f_i2s, f_ladd, f_lmul, c_eq, c_ne, c_lt, c_ge, c_gt, c_le, cc_eq, cc_ne, cc_lt, cc_ge, cc_gt, cc_le, rfo, aof, csum, Value.category, List.take, List.drop, List.reverse, List.reverseAux, List.map, List.sum_cons, List.sum_nil, List.cons_append, List.nil_append, Option.toList, List.mem_cons, List.not_mem_nil, List.length_cons, List.length_nil, reduceIte, Nat.reduceEqDiff, Nat.reduceAdd, Nat.reduceLeDiff, Nat.reduceLT, a_day, Nat.zero_ne_one, Nat.one_ne_zero, false_and, and_false, true_and, and_true, or_false, false_or, or_true, true_or, not_true_eq_false, not_false_eq_true, Nat.zero_add, Nat.add_zero, Nat.le_refl, Nat.lt_irrefl, Nat.zero_lt_succ, Nat.zero_le, forall_const, List.cons.injEq, Value.int.injEq, Value.ref.injEq, Value.long.injEq, and_assoc, exists_and_left, exists_eq_left', forall_eq]
          rw [hR1.2.1, nI_clamp (by omega), e5]
          refine ⟨r_3 hr, r_3 hr, r_5 hr, v_5 hm hjm, (r_3 hr).1, (r_3 hr).2.1, m', hR1.1.1, j, rfl, hm, hjm, fun _ => ?_, fun w => by omega⟩
          have e52 : mset M1 3 6 (nI (j + 1)) 5 = S := by rw [YP_row hT hs2 5 (by omega), e5]
          have e62 : mset M1 3 6 (nI (j + 1)) 6 = V := by rw [YP_row hT hs2 6 (by omega), e6]
          subst hB58
          unfold BX3_sum_58
          generalize hB64 : BX3_sum_64 g Q (U_X3_term (k + 1) g) (T_X3_go g) (T_X4_add g) K8 = B64
          simp only [U_X3_term, T_X3_go, T_X4_add, i_const, i_lconst, i_iload, i_aload, i_lload, i_istore, i_astore, i_lstore, i_iinc, i_bin, i_div, i_un, i_i2l, i_l2i, i_lbin, i_lcmp, i_if, i_icmp, i_dup, i_dup_x1, i_dup2, i_pop, i_geti, i_getr, i_getd, i_puti, i_putz, i_putd, i_iald, i_bald, i_aald, i_iast, i_bast, i_alen, i_keep, i_ret, i_retz, i_reta, i_retl, i_retv, i_callv, i_callk, i_calls, i_mm, i_copy, i_under, i_undld, i_ldcs, i_sw, q_swc0, q_swc1, q_lg0, q_lg1, q_lent0, q_lent1, lset, lset2, q_lins0, q_lins1, q_ldel0, q_ldel1, q_ldel20, q_ldel21, q_lkeep0, q_lkeep1, q_memb0, q_memb1, cat2, Nat.reduceBEq, decide_true, decide_false, decide_eq_true_eq, cond_true, cond_false, Bool.and_true, Bool.and_false, Bool.true_and, Bool.false_and, f_iadd, f_isub, f_imul, f_ishl, f_ishr, f_iushr, f_iand, f_ior, f_idiv, f_irem, f_ineg, f_i2b, f_i2s, f_ladd, f_lmul, c_eq, c_ne, c_lt, c_ge, c_gt, c_le, cc_eq, cc_ne, cc_lt, cc_ge, cc_gt, cc_le, rfo, aof, csum, Value.category, List.take, List.drop, List.reverse, List.reverseAux, List.map, List.sum_cons, List.sum_nil, List.cons_append, List.nil_append, Option.toList, List.mem_cons, List.not_mem_nil, List.length_cons, List.length_nil, reduceIte, Nat.reduceEqDiff, Nat.reduceAdd, Nat.reduceLeDiff, Nat.reduceLT, a_day, Nat.zero_ne_one, Nat.one_ne_zero, false_and, and_false, true_and, and_true, or_false, false_or, or_true, true_or, not_true_eq_false, not_false_eq_true, Nat.zero_add, Nat.add_zero, Nat.le_refl, Nat.lt_irrefl, Nat.zero_lt_succ, Nat.zero_le, forall_const, List.cons.injEq, Value.int.injEq, Value.ref.injEq, Value.long.injEq, and_assoc, exists_and_left, exists_eq_left']
          try simp only [forall_eq]
          refine ⟨(r_3 hr).1, (r_3 hr).2.1, r, op, m', j + 1, sz + c1.length, -1, rfl, hT, hop, hk, hR2, fun M3 hM3 => ?_⟩
          rw [e52, e62] at hM3
          subst hB64
          unfold BX3_sum_64
          simp only [U_X3_term, T_X3_go, T_X4_add, i_const, i_lconst, i_iload, i_aload, i_lload, i_istore, i_astore, i_lstore, i_iinc, i_bin, i_div, i_un, i_i2l, i_l2i, i_lbin, i_lcmp, i_if, i_icmp, i_dup, i_dup_x1, i_dup2, i_pop, i_geti, i_getr, i_getd, i_puti, i_putz, i_putd, i_iald, i_bald, i_aald, i_iast, i_bast, i_alen, i_keep, i_ret, i_retz, i_reta, i_retl, i_retv, i_callv, i_callk, i_calls, i_mm, i_copy, i_under, i_undld, i_ldcs, i_sw, q_swc0, q_swc1, q_lg0, q_lg1, q_lent0, q_lent1, lset, lset2, q_lins0, q_lins1, q_ldel0, q_ldel1, q_ldel20, q_ldel21, q_lkeep0, q_lkeep1, q_memb0, q_memb1, cat2, Nat.reduceBEq, decide_true, decide_false, decide_eq_true_eq, cond_true, cond_false, Bool.and_true, Bool.and_false, Bool.true_and, Bool.false_and, f_iadd, f_isub, f_imul, f_ishl, f_ishr, f_iushr, f_iand, f_ior, f_idiv, f_irem, f_ineg, f_i2b, f_i2s, f_ladd, f_lmul, c_eq, c_ne, c_lt, c_ge, c_gt, c_le, cc_eq, cc_ne, cc_lt, cc_ge, cc_gt, cc_le, rfo, aof, csum, Value.category, List.take, List.drop, List.reverse, List.reverseAux, List.map, List.sum_cons, List.sum_nil, List.cons_append, List.nil_append, Option.toList, List.mem_cons, List.not_mem_nil, List.length_cons, List.length_nil, reduceIte, Nat.reduceEqDiff, Nat.reduceAdd, Nat.reduceLeDiff, Nat.reduceLT, a_day, Nat.zero_ne_one, Nat.one_ne_zero, false_and, and_false, true_and, and_true, or_false, false_or, or_true, true_or, not_true_eq_false, not_false_eq_true, Nat.zero_add, Nat.add_zero, Nat.le_refl, Nat.lt_irrefl, Nat.zero_lt_succ, Nat.zero_le, forall_const, List.cons.injEq, Value.int.injEq, Value.ref.injEq, Value.long.injEq, and_assoc, exists_and_left, exists_eq_left']
          try simp only [forall_eq]
          rw [nI_1]
          have fin : ∀ M4, (FlO (FL 5 S V op i) M M4 r m' i f ∨ (f = -1 ∧ GdO (fun j c => GL 5 S V op i j c ∧ ¬ S j = 42 ∧ i + (t + 1) + 1 ≤ j) M M4 r m' i sz)) → K8 [(0, .ref 3), (1, .ref r), (2, .int (nI op)), (3, .int (nI (t + 1)))] [] M4 := by
            intro M4 hM4
            refine hK8 (161 - (t + 1)) _ _ _ (by omega) ?_
            rw [hI8]
            exact ⟨t + 1, rfl, rfl, by omega, rfl, hM4⟩
          rcases hM3 with hfl3 | ⟨-, hgd3⟩
          · have hflA : FlO (FL 5 S V op i) M M3 r m' i f := by
              obtain ⟨hs3, f3, sz3, hR3, g1, g2, g3⟩ := hfl3
              refine ⟨(hs1.tr hs2).tr hs3, f3, sz3, hR3, g1, fun w => absurd hf w, fun _ => ?_⟩
              obtain ⟨k', hk1, hk2, hF, hfe⟩ := g3 rfl
              refine ⟨k', by omega, hk2, bin_fail (Or.inl rfl) hrk hop' h41 hsn hne (by omega) (by omega) hG hF, ?_⟩
              rw [hfe, YP_row hT hs2 7 (by omega), YP_row hT hs1 7 (by omega)]
            obtain ⟨f3, sz3, hR3, hf3⟩ := hflA.st
            exact ⟨fun _ => ⟨tx.1.1, tx.1.2.1, hT, sz3, hR3.2.2.2.2.1, hR3.2.2.2.2.2.1, fun w => fin _ (Or.inl (hflA.add hT _ sz3 hR3.2.2.2.2.1 w)), fun _ => fin _ (Or.inl hflA)⟩, fun _ => ⟨tx.1.1, tx.1.2.1, hT, sz3, hR3.2.2.2.2.1, hR3.2.2.2.2.2.1, fun w => fin _ (Or.inl (hflA.add hT _ sz3 hR3.2.2.2.2.1 w)), fun _ => fin _ (Or.inl hflA)⟩⟩
          · obtain ⟨hs3, j2, c2, hj2, hR3, hcl2, gq, gq2, hw2, hG2, hfo2⟩ := hgd3
            obtain ⟨h160, hgo⟩ := GdO.cat (G := fun j c => True) (G' := fun j c => GL 5 S V op i j c ∧ ¬ S j = 42 ∧ i + (t + 1) + 1 ≤ j) hT (x := sg) (by rcases hsg with w | w <;> subst w <;> decide) hs1 hj hR1 hcl hq hq2 hw hs2 (fun q => by rw [ms_q (by omega)]) hs3 hj2 hR3 hcl2 gq gq2 hw2 ⟨bin_step (Or.inl rfl) hrk hop' h41 hsn hne (by omega) (by omega) hG hG2, hfo2, by omega⟩ hszi
            refine ⟨fun w => ⟨tx.1.1, tx.1.2.1, hT, sz + c1.length + c2.length, hR3.2.2.2.2.1, hR3.2.2.2.2.2.1, fun _ => fin _ (Or.inr ⟨hf, ?_⟩), fun w => by omega⟩, fun w => ⟨tx.1.1, tx.1.2.1, hT, sz + c1.length + c2.length, hR3.2.2.2.2.1, hR3.2.2.2.2.2.1, fun _ => fin _ (Or.inr ⟨hf, ?_⟩), fun w => by omega⟩⟩
            · rw [← htr1 w]; exact hgo
            · rw [← htr2 (Decidable.not_not.mp w)]; exact hgo
        rw [hR1.2.1, nI_clamp (by omega), e5, c160', nI_leI (a := 160) (by decide) (by omega)]
        refine ⟨fun q => by omega, fun _ => ⟨r_3 hr, r_3 hr, r_5 hr, v_5 hm hjm, fun q => ?_, fun q => ⟨r_3 hr, r_3 hr, r_5 hr, v_5 hm hjm, fun q2 => ?_, fun q2 => ?_⟩⟩⟩
        · subst hB43; exact go (Or.inl q)
        · exact h M1 (Or.inr ⟨hf, hs1, j, c1, hj, hR1, hcl, hq, hq2, hw, hG, hpt, q, q2⟩)
        · subst hB43; exact go (Or.inr (Decidable.not_not.mp q2))
    refine s_of (fun lv st M0 hs => ?_) (WX3_sum_0 C ih_X3_term (by omega) (t_X3_go hr) (by omega) (t_X4_add hr) (by omega) L8)
    obtain ⟨rfl, rfl, rfl⟩ := hs
    unfold BX3_sum_0
    simp only [U_X3_term, T_X3_go, T_X4_add, i_const, i_lconst, i_iload, i_aload, i_lload, i_istore, i_astore, i_lstore, i_iinc, i_bin, i_div, i_un, i_i2l, i_l2i, i_lbin, i_lcmp, i_if, i_icmp, i_dup, i_dup_x1, i_dup2, i_pop, i_geti, i_getr, i_getd, i_puti, i_putz, i_putd, i_iald, i_bald, i_aald, i_iast, i_bast, i_alen, i_keep, i_ret, i_retz, i_reta, i_retl, i_retv, i_callv, i_callk, i_calls, i_mm, i_copy, i_under, i_undld, i_ldcs, i_sw, q_swc0, q_swc1, q_lg0, q_lg1, q_lent0, q_lent1, lset, lset2, q_lins0, q_lins1, q_ldel0, q_ldel1, q_ldel20, q_ldel21, q_lkeep0, q_lkeep1, q_memb0, q_memb1, cat2, Nat.reduceBEq, decide_true, decide_false, decide_eq_true_eq, cond_true, cond_false, Bool.and_true, Bool.and_false, Bool.true_and, Bool.false_and, f_iadd, f_isub, f_imul, f_ishl, f_ishr, f_iushr, f_iand, f_ior, f_idiv, f_irem, f_ineg, f_i2b, f_i2s, f_ladd, f_lmul, c_eq, c_ne, c_lt, c_ge, c_gt, c_le, cc_eq, cc_ne, cc_lt, cc_ge, cc_gt, cc_le, rfo, aof, csum, Value.category, List.take, List.drop, List.reverse, List.reverseAux, List.map, List.sum_cons, List.sum_nil, List.cons_append, List.nil_append, Option.toList, List.mem_cons, List.not_mem_nil, List.length_cons, List.length_nil, reduceIte, Nat.reduceEqDiff, Nat.reduceAdd, Nat.reduceLeDiff, Nat.reduceLT, a_day, Nat.zero_ne_one, Nat.one_ne_zero, false_and, and_false, true_and, and_true, or_false, false_or, or_true, true_or, not_true_eq_false, not_false_eq_true, Nat.zero_add, Nat.add_zero, Nat.le_refl, Nat.lt_irrefl, Nat.zero_lt_succ, Nat.zero_le, forall_const, List.cons.injEq, Value.int.injEq, Value.ref.injEq, Value.long.injEq, and_assoc, exists_and_left, exists_eq_left']
    try simp only [forall_eq]
    refine ⟨(r_3 hr).1, (r_3 hr).2.1, r, op, m', i, sz, f, rfl, hT, hop, hk, hR, fun M1 hM1 => ?_⟩
    rw [hS, hV] at hM1
    refine iE8 (161 - 0) _ _ _ ?_
    rw [hI8]
    refine ⟨0, rfl, rfl, by omega, rfl, ?_⟩
    rcases hM1 with q | ⟨hf, q⟩
    · exact Or.inl (q.mono fun k _ q => q.mono (by decide))
    · exact Or.inr ⟨hf, q.mono fun j c hj q => ⟨q.1.mono (by decide), q.2, by omega⟩⟩
theorem sg_cmp {s : Int32} (h : s = 60 ∨ s = 61) : ∃ sg, ((s = 60 ∧ sg = 9) ∨ (s = 61 ∧ sg = 10)) ∧ (sg = 6 ∨ sg = 7 ∨ sg = 8 ∨ sg = 9 ∨ sg = 10 ∨ sg = 11 ∨ sg = 12) ∧ ((¬ s = 60 → tr sg = -16) ∧ (s = 60 → tr sg = -15)) := by
  rcases h with rfl | rfl
  · exact ⟨9, Or.inl ⟨rfl, rfl⟩, by decide, fun q => absurd rfl q, fun _ => rfl⟩
  · exact ⟨10, Or.inr ⟨rfl, rfl⟩, by decide, fun _ => rfl, fun q => absurd q (by decide)⟩
set_option maxRecDepth 100000 in
set_option maxHeartbeats 4000000 in
theorem u_X3_compared {l : Launch} {g : WG} (hr : Reg g 3 32) (k : Nat) (ih_X3_sum : Ct l g yX3_sum cX3_sum 5 ((Option.none : Option FieldType)) (8 * (k + 1) + 2) (U_X3_sum (k + 1) g)) : Ct l g yX3_compared cX3_compared 4 ((Option.none : Option FieldType)) (8 * (k + 1) + 3) (U_X3_compared (k + 1) g) := by
  refine Ct.of (by decide) (fun as M Q h => ?_) (fun p e s m args below meth c as M Q h C => ?_)
  · obtain ⟨r, op, m', i, sz, f, rfl, hT, hop, hk, hR, h⟩ := h; exact ⟨by simp, by simp [Value.category]⟩
  · obtain ⟨r, op, m', i, sz, f, rfl, hT, hop, hk, hR, h⟩ := h
    refine s_of (fun lv st M0 hs => ?_) (WX3_compared_0 C ih_X3_sum (by omega) (t_X3_go hr) (by omega) (t_X4_add hr) (by omega))
    obtain ⟨rfl, rfl, rfl⟩ := hs
    unfold BX3_compared_0
    generalize hB6 : BX3_compared_6 g Q (U_X3_sum (k + 1) g) (T_X3_go g) (T_X4_add g) = B6
    simp only [U_X3_sum, T_X3_go, T_X4_add, i_const, i_lconst, i_iload, i_aload, i_lload, i_istore, i_astore, i_lstore, i_iinc, i_bin, i_div, i_un, i_i2l, i_l2i, i_lbin, i_lcmp, i_if, i_icmp, i_dup, i_dup_x1, i_dup2, i_pop, i_geti, i_getr, i_getd, i_puti, i_putz, i_putd, i_iald, i_bald, i_aald, i_iast, i_bast, i_alen, i_keep, i_ret, i_retz, i_reta, i_retl, i_retv, i_callv, i_callk, i_calls, i_mm, i_copy, i_under, i_undld, i_ldcs, i_sw, q_swc0, q_swc1, q_lg0, q_lg1, q_lent0, q_lent1, lset, lset2, q_lins0, q_lins1, q_ldel0, q_ldel1, q_ldel20, q_ldel21, q_lkeep0, q_lkeep1, q_memb0, q_memb1, cat2, Nat.reduceBEq, decide_true, decide_false, decide_eq_true_eq, cond_true, cond_false, Bool.and_true, Bool.and_false, Bool.true_and, Bool.false_and, f_iadd, f_isub, f_imul, f_ishl, f_ishr, f_iushr, f_iand, f_ior, f_idiv, f_irem, f_ineg, f_i2b, f_i2s, f_ladd, f_lmul, c_eq, c_ne, c_lt, c_ge, c_gt, c_le, cc_eq, cc_ne, cc_lt, cc_ge, cc_gt, cc_le, rfo, aof, csum, Value.category, List.take, List.drop, List.reverse, List.reverseAux, List.map, List.sum_cons, List.sum_nil, List.cons_append, List.nil_append, Option.toList, List.mem_cons, List.not_mem_nil, List.length_cons, List.length_nil, reduceIte, Nat.reduceEqDiff, Nat.reduceAdd, Nat.reduceLeDiff, Nat.reduceLT, a_day, Nat.zero_ne_one, Nat.one_ne_zero, false_and, and_false, true_and, and_true, or_false, false_or, or_true, true_or, not_true_eq_false, not_false_eq_true, Nat.zero_add, Nat.add_zero, Nat.le_refl, Nat.lt_irrefl, Nat.zero_lt_succ, Nat.zero_le, forall_const, List.cons.injEq, Value.int.injEq, Value.ref.injEq, Value.long.injEq, and_assoc, exists_and_left, exists_eq_left']
    try simp only [forall_eq]
    have h8 := isT_8 hT
    obtain ⟨S, hS⟩ : ∃ S, M0 5 = S := ⟨_, rfl⟩
    obtain ⟨V, hV⟩ : ∃ V, M0 6 = V := ⟨_, rfl⟩
    rw [hS, hV] at h
    have hm := hR.1.2.1
    have h50 : S m' = 0 := by rw [← hS]; exact hR.1.2.2.1
    have tx := text_ok hr hT
    refine ⟨(r_3 hr).1, (r_3 hr).2.1, r, op, m', i, sz, f, rfl, hT, hop, hk, hR, fun M1 hM1 => ?_⟩
    rw [hS, hV] at hM1
    subst hB6
    unfold BX3_compared_6
    generalize hB28 : BX3_compared_28 g Q (U_X3_sum (k + 1) g) (T_X3_go g) (T_X4_add g) = B28
    simp only [U_X3_sum, T_X3_go, T_X4_add, i_const, i_lconst, i_iload, i_aload, i_lload, i_istore, i_astore, i_lstore, i_iinc, i_bin, i_div, i_un, i_i2l, i_l2i, i_lbin, i_lcmp, i_if, i_icmp, i_dup, i_dup_x1, i_dup2, i_pop, i_geti, i_getr, i_getd, i_puti, i_putz, i_putd, i_iald, i_bald, i_aald, i_iast, i_bast, i_alen, i_keep, i_ret, i_retz, i_reta, i_retl, i_retv, i_callv, i_callk, i_calls, i_mm, i_copy, i_under, i_undld, i_ldcs, i_sw, q_swc0, q_swc1, q_lg0, q_lg1, q_lent0, q_lent1, lset, lset2, q_lins0, q_lins1, q_ldel0, q_ldel1, q_ldel20, q_ldel21, q_lkeep0, q_lkeep1, q_memb0, q_memb1, cat2, Nat.reduceBEq, decide_true, decide_false, decide_eq_true_eq, cond_true, cond_false, Bool.and_true, Bool.and_false, Bool.true_and, Bool.false_and, f_iadd, f_isub, f_imul, f_ishl, f_ishr, f_iushr, f_iand, f_ior, f_idiv, f_irem, f_ineg, f_i2b, f_i2s, f_ladd, f_lmul, c_eq, c_ne, c_lt, c_ge, c_gt, c_le, cc_eq, cc_ne, cc_lt, cc_ge, cc_gt, cc_le, rfo, aof, csum, Value.category, List.take, List.drop, List.reverse, List.reverseAux, List.map, List.sum_cons, List.sum_nil, List.cons_append, List.nil_append, Option.toList, List.mem_cons, List.not_mem_nil, List.length_cons, List.length_nil, reduceIte, Nat.reduceEqDiff, Nat.reduceAdd, Nat.reduceLeDiff, Nat.reduceLT, a_day, Nat.zero_ne_one, Nat.one_ne_zero, false_and, and_false, true_and, and_true, or_false, false_or, or_true, true_or, not_true_eq_false, not_false_eq_true, Nat.zero_add, Nat.add_zero, Nat.le_refl, Nat.lt_irrefl, Nat.zero_lt_succ, Nat.zero_le, forall_const, List.cons.injEq, Value.int.injEq, Value.ref.injEq, Value.long.injEq, and_assoc, exists_and_left, exists_eq_left']
    try simp only [forall_eq]
    rcases hM1 with hfl | ⟨hf, hgd⟩
    · obtain ⟨f1, sz1, hR1, hf1⟩ := hfl.st
      have e5 : M1 5 = S := by rw [YP_row hT hfl.1 5 (by omega), hS]
      rw [hR1.2.1, nI_clamp (by omega), e5, h50]
      exact ⟨r_3 hr, r_3 hr, r_5 hr, v_5 hm (Nat.le_refl _), fun q => absurd q (by decide), fun _ => ⟨fun _ => h M1 (Or.inl (hfl.mono fun k _ q => cmp_f0 q)), fun q => absurd (by decide) q⟩⟩
    · obtain ⟨hs1, j, c1, hj, hR1, hcl, hq, hq2, hw, hG, hpt⟩ := hgd
      have hjm := hR1.2.2.1
      have e5 : M1 5 = S := by rw [YP_row hT hs1 5 (by omega), hS]
      have e6 : M1 6 = V := by rw [YP_row hT hs1 6 (by omega), hV]
      have go : (S j = 60 ∨ S j = 61) → BX3_compared_28 g Q (U_X3_sum (k + 1) g) (T_X3_go g) (T_X4_add g) [(0, .ref 3), (1, .ref r), (2, .int (nI op)), (3, .int (S j))] [] M1 := by
        intro hSj
        obtain ⟨sg, hsg, hsg2, htr1, htr2⟩ := sg_cmp hSj
        have hjl : j < m' := by
          rcases Nat.lt_or_ge j m' with w | w
          · exact w
          · have : j = m' := by omega
            rw [this, h50] at hSj; exact absurd hSj (by decide)
        obtain ⟨hR2, hs2⟩ := hR1.go hT hjl
        have hszi : sz ≤ i := hR.2.2.2.2.2.2.1 hf
        unfold BX3_compared_28
        generalize hB32 : BX3_compared_32 g Q (U_X3_sum (k + 1) g) (T_X3_go g) (T_X4_add g) = B32
        simp only [T_X3_go, i_const, i_lconst, i_iload, i_aload, i_lload, i_istore, i_astore, i_lstore, i_iinc, i_bin, i_div, i_un, i_i2l, i_l2i, i_lbin, i_lcmp, i_if, i_icmp, i_dup, i_dup_x1, i_dup2, i_pop, i_geti, i_getr, i_getd, i_puti, i_putz, i_putd, i_iald, i_bald, i_aald, i_iast, i_bast, i_alen, i_keep, i_ret, i_retz, i_reta, i_retl, i_retv, i_callv, i_callk, i_calls, i_mm, i_copy, i_under, i_undld, i_ldcs, i_sw, q_swc0, q_swc1, q_lg0, q_lg1, q_lent0, q_lent1, lset, lset2, q_lins0, q_lins1, q_ldel0, q_ldel1, q_ldel20, q_ldel21, q_lkeep0, q_lkeep1, q_memb0, q_memb1, cat2, Nat.reduceBEq, decide_true, decide_false, decide_eq_true_eq, cond_true, cond_false, Bool.and_true, Bool.and_false, Bool.true_and, Bool.false_and, f_iadd, f_isub, f_imul, f_ishl, f_ishr, f_iushr, f_iand, f_ior, f_idiv, f_irem, f_ineg, f_i2b, f_i2s, f_ladd, f_lmul, c_eq, c_ne, c_lt, c_ge, c_gt, c_le, cc_eq, cc_ne, cc_lt, cc_ge, cc_gt, cc_le, rfo, aof, csum, Value.category, List.take, List.drop, List.reverse, List.reverseAux, List.map, List.sum_cons, List.sum_nil, List.cons_append, List.nil_append, Option.toList, List.mem_cons, List.not_mem_nil, List.length_cons, List.length_nil, reduceIte, Nat.reduceEqDiff, Nat.reduceAdd, Nat.reduceLeDiff, Nat.reduceLT, a_day, Nat.zero_ne_one, Nat.one_ne_zero, false_and, and_false, true_and, and_true, or_false, false_or, or_true, true_or, not_true_eq_false, not_false_eq_true, Nat.zero_add, Nat.add_zero, Nat.le_refl, Nat.lt_irrefl, Nat.zero_lt_succ, Nat.zero_le, forall_const, List.cons.injEq, Value.int.injEq, Value.ref.injEq, Value.long.injEq, and_assoc, exists_and_left, exists_eq_left']
        refine ⟨(r_3 hr).1, (r_3 hr).2.1, m', hR1.1.1, j, hR1.2.1, hm, hjm, fun _ => ?_, fun w => by omega⟩
        have e52 : mset M1 3 6 (nI (j + 1)) 5 = S := by rw [YP_row hT hs2 5 (by omega), e5]
        have e62 : mset M1 3 6 (nI (j + 1)) 6 = V := by rw [YP_row hT hs2 6 (by omega), e6]
        subst hB32
        unfold BX3_compared_32
        generalize hB38 : BX3_compared_38 g Q (U_X3_sum (k + 1) g) (T_X3_go g) (T_X4_add g) = B38
        simp only [U_X3_sum, T_X3_go, T_X4_add, i_const, i_lconst, i_iload, i_aload, i_lload, i_istore, i_astore, i_lstore, i_iinc, i_bin, i_div, i_un, i_i2l, i_l2i, i_lbin, i_lcmp, i_if, i_icmp, i_dup, i_dup_x1, i_dup2, i_pop, i_geti, i_getr, i_getd, i_puti, i_putz, i_putd, i_iald, i_bald, i_aald, i_iast, i_bast, i_alen, i_keep, i_ret, i_retz, i_reta, i_retl, i_retv, i_callv, i_callk, i_calls, i_mm, i_copy, i_under, i_undld, i_ldcs, i_sw, q_swc0, q_swc1, q_lg0, q_lg1, q_lent0, q_lent1, lset, lset2, q_lins0, q_lins1, q_ldel0, q_ldel1, q_ldel20, q_ldel21, q_lkeep0, q_lkeep1, q_memb0, q_memb1, cat2, Nat.reduceBEq, decide_true, decide_false, decide_eq_true_eq, cond_true, cond_false, Bool.and_true, Bool.and_false, Bool.true_and, Bool.false_and, f_iadd, f_isub, f_imul, f_ishl, f_ishr, f_iushr, f_iand, f_ior, f_idiv, f_irem, f_ineg, f_i2b, f_i2s, f_ladd, f_lmul, c_eq, c_ne, c_lt, c_ge, c_gt, c_le, cc_eq, cc_ne, cc_lt, cc_ge, cc_gt, cc_le, rfo, aof, csum, Value.category, List.take, List.drop, List.reverse, List.reverseAux, List.map, List.sum_cons, List.sum_nil, List.cons_append, List.nil_append, Option.toList, List.mem_cons, List.not_mem_nil, List.length_cons, List.length_nil, reduceIte, Nat.reduceEqDiff, Nat.reduceAdd, Nat.reduceLeDiff, Nat.reduceLT, a_day, Nat.zero_ne_one, Nat.one_ne_zero, false_and, and_false, true_and, and_true, or_false, false_or, or_true, true_or, not_true_eq_false, not_false_eq_true, Nat.zero_add, Nat.add_zero, Nat.le_refl, Nat.lt_irrefl, Nat.zero_lt_succ, Nat.zero_le, forall_const, List.cons.injEq, Value.int.injEq, Value.ref.injEq, Value.long.injEq, and_assoc, exists_and_left, exists_eq_left']
        try simp only [forall_eq]
        refine ⟨(r_3 hr).1, (r_3 hr).2.1, r, op, m', j + 1, sz + c1.length, -1, rfl, hT, hop, hk, hR2, fun M3 hM3 => ?_⟩
        rw [e52, e62] at hM3
        subst hB38
        unfold BX3_compared_38
        simp only [U_X3_sum, T_X3_go, T_X4_add, i_const, i_lconst, i_iload, i_aload, i_lload, i_istore, i_astore, i_lstore, i_iinc, i_bin, i_div, i_un, i_i2l, i_l2i, i_lbin, i_lcmp, i_if, i_icmp, i_dup, i_dup_x1, i_dup2, i_pop, i_geti, i_getr, i_getd, i_puti, i_putz, i_putd, i_iald, i_bald, i_aald, i_iast, i_bast, i_alen, i_keep, i_ret, i_retz, i_reta, i_retl, i_retv, i_callv, i_callk, i_calls, i_mm, i_copy, i_under, i_undld, i_ldcs, i_sw, q_swc0, q_swc1, q_lg0, q_lg1, q_lent0, q_lent1, lset, lset2, q_lins0, q_lins1, q_ldel0, q_ldel1, q_ldel20, q_ldel21, q_lkeep0, q_lkeep1, q_memb0, q_memb1, cat2, Nat.reduceBEq, decide_true, decide_false, decide_eq_true_eq, cond_true, cond_false, Bool.and_true, Bool.and_false, Bool.true_and, Bool.false_and, f_iadd, f_isub, f_imul, f_ishl, f_ishr, f_iushr, f_iand, f_ior, f_idiv, f_irem, f_ineg, f_i2b, f_i2s, f_ladd, f_lmul, c_eq, c_ne, c_lt, c_ge, c_gt, c_le, cc_eq, cc_ne, cc_lt, cc_ge, cc_gt, cc_le, rfo, aof, csum, Value.category, List.take, List.drop, List.reverse, List.reverseAux, List.map, List.sum_cons, List.sum_nil, List.cons_append, List.nil_append, Option.toList, List.mem_cons, List.not_mem_nil, List.length_cons, List.length_nil, reduceIte, Nat.reduceEqDiff, Nat.reduceAdd, Nat.reduceLeDiff, Nat.reduceLT, a_day, Nat.zero_ne_one, Nat.one_ne_zero, false_and, and_false, true_and, and_true, or_false, false_or, or_true, true_or, not_true_eq_false, not_false_eq_true, Nat.zero_add, Nat.add_zero, Nat.le_refl, Nat.lt_irrefl, Nat.zero_lt_succ, Nat.zero_le, forall_const, List.cons.injEq, Value.int.injEq, Value.ref.injEq, Value.long.injEq, and_assoc, exists_and_left, exists_eq_left']
        try simp only [forall_eq]
        rcases hM3 with hfl3 | ⟨-, hgd3⟩
        · have hflA : FlO (F4 S V op i) M0 M3 r m' i f := by
            obtain ⟨hs3, f3, sz3, hR3, g1, g2, g3⟩ := hfl3
            refine ⟨(hs1.tr hs2).tr hs3, f3, sz3, hR3, g1, fun w => absurd hf w, fun _ => ?_⟩
            obtain ⟨k', hk1, hk2, hF, hfe⟩ := g3 rfl
            refine ⟨k', by omega, hk2, cmp_f1 hsg (by omega) (by omega) hG hF, ?_⟩
            rw [hfe, YP_row hT hs2 7 (by omega), YP_row hT hs1 7 (by omega)]
          obtain ⟨f3, sz3, hR3, hf3⟩ := hflA.st
          exact ⟨fun _ => ⟨tx.1.1, tx.1.2.1, hT, sz3, hR3.2.2.2.2.1, hR3.2.2.2.2.2.1, fun w => h _ (Or.inl (hflA.add hT _ sz3 hR3.2.2.2.2.1 w)), fun _ => h _ (Or.inl hflA)⟩, fun _ => ⟨tx.1.1, tx.1.2.1, hT, sz3, hR3.2.2.2.2.1, hR3.2.2.2.2.2.1, fun w => h _ (Or.inl (hflA.add hT _ sz3 hR3.2.2.2.2.1 w)), fun _ => h _ (Or.inl hflA)⟩⟩
        · obtain ⟨hs3, j2, c2, hj2, hR3, hcl2, gq, gq2, hw2, hG2, hfo2⟩ := hgd3
          obtain ⟨h160, hgo⟩ := GdO.cat (G := fun j c => True) (G' := fun j c => G4 S V op i j c ∧ fs (S j)) hT (x := sg) hsg2 hs1 hj hR1 hcl hq hq2 hw hs2 (fun q => by rw [ms_q (by omega)]) hs3 hj2 hR3 hcl2 gq gq2 hw2 ⟨cmp_1 hsg (by omega) (by omega) hG hG2, hfo2⟩ hszi
          refine ⟨fun w => ⟨tx.1.1, tx.1.2.1, hT, sz + c1.length + c2.length, hR3.2.2.2.2.1, hR3.2.2.2.2.2.1, fun _ => h _ (Or.inr ⟨hf, ?_⟩), fun w => by omega⟩, fun w => ⟨tx.1.1, tx.1.2.1, hT, sz + c1.length + c2.length, hR3.2.2.2.2.1, hR3.2.2.2.2.2.1, fun _ => h _ (Or.inr ⟨hf, ?_⟩), fun w => by omega⟩⟩
          · rw [← htr1 w]; exact hgo
          · rw [← htr2 (Decidable.not_not.mp w)]; exact hgo
      rw [hR1.2.1, nI_clamp (by omega), e5]
      refine ⟨r_3 hr, r_3 hr, r_5 hr, v_5 hm hjm, fun q => ?_, fun q => ⟨fun q2 => ?_, fun q2 => ?_⟩⟩
      · subst hB28; exact go (Or.inl q)
      · exact h M1 (Or.inr ⟨hf, hs1, j, c1, hj, hR1, hcl, hq, hq2, hw, cmp_0 hG ⟨q, q2⟩, hpt⟩)
      · subst hB28; exact go (Or.inr (Decidable.not_not.mp q2))
set_option maxRecDepth 100000 in
set_option maxHeartbeats 4000000 in
theorem u_X3_denial {l : Launch} {g : WG} (hr : Reg g 3 32) (k : Nat) (ih_X3_compared : Ct l g yX3_compared cX3_compared 4 ((Option.none : Option FieldType)) (8 * (k + 1) + 3) (U_X3_compared (k + 1) g)) (ih_X3_denial : Ct l g yX3_denial cX3_denial 3 ((Option.none : Option FieldType)) (8 * k + 4) (U_X3_denial k g)) : Ct l g yX3_denial cX3_denial 3 ((Option.none : Option FieldType)) (8 * (k + 1) + 4) (U_X3_denial (k + 1) g) := by
  refine Ct.of (by decide) (fun as M Q h => ?_) (fun p e s m args below meth c as M Q h C => ?_)
  · obtain ⟨r, op, m', i, sz, f, rfl, hT, hop, hk, hR, h⟩ := h; exact ⟨by simp, by simp [Value.category]⟩
  · obtain ⟨r, op, m', i, sz, f, rfl, hT, hop, hk, hR, h⟩ := h
    refine s_of (fun lv st M0 hs => ?_) (WX3_denial_0 C (t_X3_go hr) (by omega) (t_X3_fail hr) (by omega) ih_X3_compared (by omega) ih_X3_denial (by omega) (t_X4_add hr) (by omega))
    obtain ⟨rfl, rfl, rfl⟩ := hs
    unfold BX3_denial_0
    generalize hB39 : BX3_denial_39 g Q (T_X3_go g) (T_X3_fail g) (U_X3_compared (k + 1) g) (U_X3_denial k g) (T_X4_add g) = B39
    simp only [T_X3_go, T_X3_fail, U_X3_compared, U_X3_denial, T_X4_add, i_const, i_lconst, i_iload, i_aload, i_lload, i_istore, i_astore, i_lstore, i_iinc, i_bin, i_div, i_un, i_i2l, i_l2i, i_lbin, i_lcmp, i_if, i_icmp, i_dup, i_dup_x1, i_dup2, i_pop, i_geti, i_getr, i_getd, i_puti, i_putz, i_putd, i_iald, i_bald, i_aald, i_iast, i_bast, i_alen, i_keep, i_ret, i_retz, i_reta, i_retl, i_retv, i_callv, i_callk, i_calls, i_mm, i_copy, i_under, i_undld, i_ldcs, i_sw, q_swc0, q_swc1, q_lg0, q_lg1, q_lent0, q_lent1, lset, lset2, q_lins0, q_lins1, q_ldel0, q_ldel1, q_ldel20, q_ldel21, q_lkeep0, q_lkeep1, q_memb0, q_memb1, cat2, Nat.reduceBEq, decide_true, decide_false, decide_eq_true_eq, cond_true, cond_false, Bool.and_true, Bool.and_false, Bool.true_and, Bool.false_and, f_iadd, f_isub, f_imul, f_ishl, f_ishr, f_iushr, f_iand, f_ior, f_idiv, f_irem, f_ineg, f_i2b, f_i2s, f_ladd, f_lmul, c_eq, c_ne, c_lt, c_ge, c_gt, c_le, cc_eq, cc_ne, cc_lt, cc_ge, cc_gt, cc_le, rfo, aof, csum, Value.category, List.take, List.drop, List.reverse, List.reverseAux, List.map, List.sum_cons, List.sum_nil, List.cons_append, List.nil_append, Option.toList, List.mem_cons, List.not_mem_nil, List.length_cons, List.length_nil, reduceIte, Nat.reduceEqDiff, Nat.reduceAdd, Nat.reduceLeDiff, Nat.reduceLT, a_day, Nat.zero_ne_one, Nat.one_ne_zero, false_and, and_false, true_and, and_true, or_false, false_or, or_true, true_or, not_true_eq_false, not_false_eq_true, Nat.zero_add, Nat.add_zero, Nat.le_refl, Nat.lt_irrefl, Nat.zero_lt_succ, Nat.zero_le, forall_const, List.cons.injEq, Value.int.injEq, Value.ref.injEq, Value.long.injEq, and_assoc, exists_and_left, exists_eq_left']
    try simp only [forall_eq]
    have h8 := isT_8 hT
    obtain ⟨S, hS⟩ : ∃ S, M0 5 = S := ⟨_, rfl⟩
    obtain ⟨V, hV⟩ : ∃ V, M0 6 = V := ⟨_, rfl⟩
    rw [hS, hV] at h
    have hm := hR.1.2.1
    have him := hR.2.2.1
    have h50 : S m' = 0 := by rw [← hS]; exact hR.1.2.2.1
    have tx := text_ok hr hT
    rw [hR.2.1, nI_clamp (by omega), hS]
    refine ⟨r_3 hr, r_3 hr, r_5 hr, v_5 hm him, fun y => ?_, fun y => ?_⟩
    · have hil : i < m' := by
        rcases Nat.lt_or_ge i m' with w | w
        · exact w
        · have : i = m' := by omega
          rw [this, h50] at y; exact absurd y (by decide)
      have hf : f = -1 := Decidable.byContradiction fun q => by have := hR.2.2.2.2.2.2.2 q; omega
      subst hf
      have hszi : sz ≤ i := hR.2.2.2.2.2.2.1 rfl
      rw [show (5 : Int32) = nI 5 from rfl, nI_ltI (by omega) (by decide)]
      refine ⟨fun u => ⟨(r_3 hr).1, (r_3 hr).2.1, m', hR.1.1, i, rfl, hm, him, fun _ => ?_, fun w => by omega⟩, fun u => ⟨(r_3 hr).1, (r_3 hr).2.1, m', hR.1.1, i, rfl, hm, him, fun _ => ?_, fun w => absurd hR.2.2.2.1 w⟩⟩
      · obtain ⟨hR2, hs2⟩ := hR.go hT hil
        have e52 : mset M0 3 6 (nI (i + 1)) 5 = S := by rw [YP_row hT hs2 5 (by omega), hS]
        have e62 : mset M0 3 6 (nI (i + 1)) 6 = V := by rw [YP_row hT hs2 6 (by omega), hV]
        subst hB39
        unfold BX3_denial_39
        generalize hB47 : BX3_denial_47 g Q (T_X3_go g) (T_X3_fail g) (U_X3_compared (k + 1) g) (U_X3_denial k g) (T_X4_add g) = B47
        simp only [T_X3_go, T_X3_fail, U_X3_compared, U_X3_denial, T_X4_add, i_const, i_lconst, i_iload, i_aload, i_lload, i_istore, i_astore, i_lstore, i_iinc, i_bin, i_div, i_un, i_i2l, i_l2i, i_lbin, i_lcmp, i_if, i_icmp, i_dup, i_dup_x1, i_dup2, i_pop, i_geti, i_getr, i_getd, i_puti, i_putz, i_putd, i_iald, i_bald, i_aald, i_iast, i_bast, i_alen, i_keep, i_ret, i_retz, i_reta, i_retl, i_retv, i_callv, i_callk, i_calls, i_mm, i_copy, i_under, i_undld, i_ldcs, i_sw, q_swc0, q_swc1, q_lg0, q_lg1, q_lent0, q_lent1, lset, lset2, q_lins0, q_lins1, q_ldel0, q_ldel1, q_ldel20, q_ldel21, q_lkeep0, q_lkeep1, q_memb0, q_memb1, cat2, Nat.reduceBEq, decide_true, decide_false, decide_eq_true_eq, cond_true, cond_false, Bool.and_true, Bool.and_false, Bool.true_and, Bool.false_and, f_iadd, f_isub, f_imul, f_ishl, f_ishr, f_iushr, f_iand, f_ior, f_idiv, f_irem, f_ineg, f_i2b, f_i2s, f_ladd, f_lmul, c_eq, c_ne, c_lt, c_ge, c_gt, c_le, cc_eq, cc_ne, cc_lt, cc_ge, cc_gt, cc_le, rfo, aof, csum, Value.category, List.take, List.drop, List.reverse, List.reverseAux, List.map, List.sum_cons, List.sum_nil, List.cons_append, List.nil_append, Option.toList, List.mem_cons, List.not_mem_nil, List.length_cons, List.length_nil, reduceIte, Nat.reduceEqDiff, Nat.reduceAdd, Nat.reduceLeDiff, Nat.reduceLT, a_day, Nat.zero_ne_one, Nat.one_ne_zero, false_and, and_false, true_and, and_true, or_false, false_or, or_true, true_or, not_true_eq_false, not_false_eq_true, Nat.zero_add, Nat.add_zero, Nat.le_refl, Nat.lt_irrefl, Nat.zero_lt_succ, Nat.zero_le, forall_const, List.cons.injEq, Value.int.injEq, Value.ref.injEq, Value.long.injEq, and_assoc, exists_and_left, exists_eq_left']
        try simp only [forall_eq]
        rw [nI_1]
        refine ⟨(r_3 hr).1, (r_3 hr).2.1, r, op + 1, m', i + 1, sz, -1, rfl, hT, by omega, by omega, hR2, fun M3 hM3 => ?_⟩
        rw [e52, e62] at hM3
        subst hB47
        unfold BX3_denial_47
        simp only [T_X3_go, T_X3_fail, U_X3_compared, U_X3_denial, T_X4_add, i_const, i_lconst, i_iload, i_aload, i_lload, i_istore, i_astore, i_lstore, i_iinc, i_bin, i_div, i_un, i_i2l, i_l2i, i_lbin, i_lcmp, i_if, i_icmp, i_dup, i_dup_x1, i_dup2, i_pop, i_geti, i_getr, i_getd, i_puti, i_putz, i_putd, i_iald, i_bald, i_aald, i_iast, i_bast, i_alen, i_keep, i_ret, i_retz, i_reta, i_retl, i_retv, i_callv, i_callk, i_calls, i_mm, i_copy, i_under, i_undld, i_ldcs, i_sw, q_swc0, q_swc1, q_lg0, q_lg1, q_lent0, q_lent1, lset, lset2, q_lins0, q_lins1, q_ldel0, q_ldel1, q_ldel20, q_ldel21, q_lkeep0, q_lkeep1, q_memb0, q_memb1, cat2, Nat.reduceBEq, decide_true, decide_false, decide_eq_true_eq, cond_true, cond_false, Bool.and_true, Bool.and_false, Bool.true_and, Bool.false_and, f_iadd, f_isub, f_imul, f_ishl, f_ishr, f_iushr, f_iand, f_ior, f_idiv, f_irem, f_ineg, f_i2b, f_i2s, f_ladd, f_lmul, c_eq, c_ne, c_lt, c_ge, c_gt, c_le, cc_eq, cc_ne, cc_lt, cc_ge, cc_gt, cc_le, rfo, aof, csum, Value.category, List.take, List.drop, List.reverse, List.reverseAux, List.map, List.sum_cons, List.sum_nil, List.cons_append, List.nil_append, Option.toList, List.mem_cons, List.not_mem_nil, List.length_cons, List.length_nil, reduceIte, Nat.reduceEqDiff, Nat.reduceAdd, Nat.reduceLeDiff, Nat.reduceLT, a_day, Nat.zero_ne_one, Nat.one_ne_zero, false_and, and_false, true_and, and_true, or_false, false_or, or_true, true_or, not_true_eq_false, not_false_eq_true, Nat.zero_add, Nat.add_zero, Nat.le_refl, Nat.lt_irrefl, Nat.zero_lt_succ, Nat.zero_le, forall_const, List.cons.injEq, Value.int.injEq, Value.ref.injEq, Value.long.injEq, and_assoc, exists_and_left, exists_eq_left']
        try simp only [forall_eq]
        rcases hM3 with hfl3 | ⟨-, hgd3⟩
        · have hflA : FlO (F3 S V op i) M0 M3 r m' i (-1) := by
            obtain ⟨hs3, f3, sz3, hR3, g1, g2, g3⟩ := hfl3
            refine ⟨hs2.tr hs3, f3, sz3, hR3, g1, fun w => absurd rfl w, fun _ => ?_⟩
            obtain ⟨k', hk1, hk2, hF, hfe⟩ := g3 rfl
            refine ⟨k', by omega, hk2, den_f1 y (by omega) (by omega) hF, ?_⟩
            rw [hfe, YP_row hT hs2 7 (by omega)]
          obtain ⟨f3, sz3, hR3, hf3⟩ := hflA.st
          exact ⟨tx.1.1, tx.1.2.1, hT, sz3, hR3.2.2.2.2.1, hR3.2.2.2.2.2.1, fun w => h _ (Or.inl (hflA.add hT _ sz3 hR3.2.2.2.2.1 w)), fun _ => h _ (Or.inl hflA)⟩
        · obtain ⟨hs3, j2, c2, hj2, hR3, hcl2, gq, gq2, hw2, hG2, hfo2⟩ := hgd3
          obtain ⟨h160, hgo⟩ := GdO.un (G := fun j c => G3 S V op i j c ∧ fs (S j)) hT (x := 13) (Or.inl rfl) hs2 (fun q => by rw [ms_q (by omega)]) hs3 hj2 hR3 hcl2 gq gq2 hw2 ⟨den_1 y (by omega) (by omega) hG2, hfo2⟩ hszi
          exact ⟨tx.1.1, tx.1.2.1, hT, sz + c2.length, hR3.2.2.2.2.1, hR3.2.2.2.2.2.1, fun _ => h _ (Or.inr ⟨rfl, hgo⟩), fun w => by omega⟩
      · exact h _ (Or.inl (hR.fail hT (den_5 y (by omega))))
    · refine ⟨(r_3 hr).1, (r_3 hr).2.1, r, op, m', i, sz, f, rfl, hT, hop, hk, hR, fun M1 hM1 => ?_⟩
      rw [hS, hV] at hM1
      rcases hM1 with q | ⟨hf, q⟩
      · exact h M1 (Or.inl (q.mono fun k _ q => den_f0 y q))
      · exact h M1 (Or.inr ⟨hf, q.mono fun j c hj q => ⟨den_0 y q.1, q.2⟩⟩)
    
