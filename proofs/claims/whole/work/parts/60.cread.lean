/-! ===== the class reads a text: the three parts ===== -/
theorem PTx.q {M M' : MM} {r p : Nat} {cs : Nat → List Int32} {e : Nat → Nat} {sz : Nat} (h : PTx M r p cs e sz) (h1 : M' (r + 1) = M (r + 1)) (h2 : M' (r + 2) = M (r + 2)) : PTx M' r p cs e sz := by
  unfold PTx at h ⊢
  rw [h1, h2]; exact h
def T_X3_read (g : WG) (as : List Value) (M : MM) (Q : Option Value → MM → Prop) : Prop := ∃ (r n : Nat), as = [.ref 3, .ref r] ∧ isT r ∧ M 3 4 = nI n ∧ n ≤ 160 ∧ ∀ m S V M' f, STR (M 4) n m S V → Sm (YRd r) M M' → M' 3 4 = 0 → (FlA (M 4) n m S V f ∨ (f = -1 ∧ ∃ cs, GdS S V cs ∧ (∀ p, p < 3 → wfc 1 (cs p)) ∧ (cs 0).length + (cs 1).length + (cs 2).length ≤ 160 ∧ txOK M' r ∧ ∀ p, p < 3 → xc M' r p = (cs p).map tr)) → Q (some (.int f)) M'
set_option maxRecDepth 100000 in
set_option maxHeartbeats 4000000 in
theorem t_X3_read {l : Launch} {g : WG} (hr : Reg g 3 32) : Ct l g yX3_read cX3_read 3 ((Option.some FieldType.int)) 55 (T_X3_read g) := by
  refine Ct.of (by decide) (fun as M Q h => ?_) (fun p e s m args below meth c as M Q h C => ?_)
  · obtain ⟨r, nn, rfl, hT, h4, hnn, h⟩ := h; exact ⟨by simp, by simp [Value.category]⟩
  · obtain ⟨r, nn, rfl, hT, h4, hnn, h⟩ := h
    have h8 := isT_8 hT
    have tx := text_ok hr hT
    obtain ⟨I20, hI20⟩ : ∃ I : Nat → PP, I = (fun n lv st M' => ∃ m S V p i sz f, lv = [(0, .ref 3), (1, .ref r), (2, .int (nI p))] ∧ st = [] ∧ p ≤ 3 ∧ n = 3 - p ∧ STR (M 4) nn m S V ∧ RJ M nn r m S V M' ∧ RSt M' r m i sz f ∧ ((f = -1 ∧ ∃ cs e, PGs S V p cs i ∧ PTx M' r p cs e sz) ∨ FlA (M 4) nn m S V f)) := ⟨_, rfl⟩
    obtain ⟨E20, hE20⟩ : ∃ E : PP, E = (fun lv st M => ∃ n, I20 n lv st M) := ⟨_, rfl⟩
    have iE20 : ∀ n lv st M, I20 n lv st M → E20 lv st M := fun n lv st M h => by rw [hE20]; exact ⟨n, h⟩
    have L20 : Sj p l e 55 s m args below meth c 3 g (MQ below (cQc g Q) args s 0 0 (gA g)) 20 E20 := by
      rw [hE20]
      refine s_ex (s_loop I20 (fun K20 k20 => WX3_read_20 C (t_X3_tokenize hr) (by decide) (t_X4_empty hr) (by decide) (t_X3_expect hr) (by decide) (t_X3_either hr) (by decide) (t_X4_endPart hr) (by decide) k20) ?_)
      intro n lv st M1 K20 hK20 hI; rw [hI20] at hI; obtain ⟨m', S, V, p', i, sz, f, rfl, rfl, hp, rfl, hST, hJ, hR, hor⟩ := hI
      unfold BX3_read_20
      generalize hB32 : BX3_read_32 g Q (T_X3_tokenize g) (T_X4_empty g) (T_X3_expect g) (T_X3_either g) (T_X4_endPart g) K20 = B32
      generalize hB55 : BX3_read_55 g Q (T_X3_tokenize g) (T_X4_empty g) (T_X3_expect g) (T_X3_either g) (T_X4_endPart g) K20 = B55
      simp only [T_X3_tokenize, T_X4_empty, T_X3_expect, T_X3_either, T_X4_endPart, i_const, i_lconst, i_iload, i_aload, i_lload, i_istore, i_astore, i_lstore, i_iinc, i_bin, i_div, i_un, i_i2l, i_l2i, i_lbin, i_lcmp, i_if, i_icmp, i_dup, i_dup_x1, i_dup2, i_pop, i_geti, i_getr, i_getd, i_puti, i_putz, i_putd, i_iald, i_bald, i_aald, i_iast, i_bast, i_alen, i_keep, i_ret, i_retz, i_reta, i_retl, i_retv, i_callv, i_callk, i_calls, i_mm, i_copy, i_under, i_undld, i_ldcs, i_sw, q_swc0, q_swc1, q_lg0, q_lg1, q_lent0, q_lent1, lset, lset2, q_lins0, q_lins1, q_ldel0, q_ldel1, q_ldel20, q_ldel21, q_lkeep0, q_lkeep1, q_memb0, q_memb1, cat2, Nat.reduceBEq, decide_true, decide_false, decide_eq_true_eq, cond_true, cond_false, Bool.and_true, Bool.and_false, Bool.true_and, Bool.false_and, f_iadd, f_isub, f_imul, f_ishl, f_ishr, f_iushr, f_iand, f_ior, f_idiv, f_irem, f_ineg, f_i2b, f_i2s, f_ladd, f_lmul, c_eq, c_ne, c_lt, c_ge, c_gt, c_le, cc_eq, cc_ne, cc_lt, cc_ge, cc_gt, cc_le, rfo, aof, csum, Value.category, List.take, List.drop, List.reverse, List.reverseAux, List.map, List.sum_cons, List.sum_nil, List.cons_append, List.nil_append, Option.toList, List.mem_cons, List.not_mem_nil, List.length_cons, List.length_nil, reduceIte, Nat.reduceEqDiff, Nat.reduceAdd, Nat.reduceLeDiff, Nat.reduceLT, a_day, Nat.zero_ne_one, Nat.one_ne_zero, false_and, and_false, true_and, and_true, or_false, false_or, or_true, true_or, not_true_eq_false, not_false_eq_true, Nat.zero_add, Nat.add_zero, Nat.le_refl, Nat.lt_irrefl, Nat.zero_lt_succ, Nat.zero_le, forall_const, List.cons.injEq, Value.int.injEq, Value.ref.injEq, Value.long.injEq, and_assoc, exists_and_left, exists_eq_left']
      try simp only [forall_eq]
      have hm : m' ≤ 160 := hR.1.2.1
      have hS0 : S m' = 0 := hST.2.2.1
      have at44 : ∀ M4 i4 sz4 f4, p' < 3 → RJ M nn r m' S V M4 → RSt M4 r m' i4 sz4 f4 → ((f4 = -1 ∧ ∃ cs e, PGs S V (p' + 1) cs i4 ∧ PTx (mset M4 (r + 2) p' (nI sz4)) r (p' + 1) cs e sz4) ∨ FlA (M 4) nn m' S V f4) → BX3_read_44 g Q (T_X3_tokenize g) (T_X4_empty g) (T_X3_expect g) (T_X3_either g) (T_X4_endPart g) K20 [(0, .ref 3), (1, .ref r), (2, .int (nI p'))] [] M4 := by
        intro M4 i4 sz4 f4 hp3 hJ4 hR4 h4'
        unfold BX3_read_44
        simp only [T_X4_endPart, i_const, i_lconst, i_iload, i_aload, i_lload, i_istore, i_astore, i_lstore, i_iinc, i_bin, i_div, i_un, i_i2l, i_l2i, i_lbin, i_lcmp, i_if, i_icmp, i_dup, i_dup_x1, i_dup2, i_pop, i_geti, i_getr, i_getd, i_puti, i_putz, i_putd, i_iald, i_bald, i_aald, i_iast, i_bast, i_alen, i_keep, i_ret, i_retz, i_reta, i_retl, i_retv, i_callv, i_callk, i_calls, i_mm, i_copy, i_under, i_undld, i_ldcs, i_sw, q_swc0, q_swc1, q_lg0, q_lg1, q_lent0, q_lent1, lset, lset2, q_lins0, q_lins1, q_ldel0, q_ldel1, q_ldel20, q_ldel21, q_lkeep0, q_lkeep1, q_memb0, q_memb1, cat2, Nat.reduceBEq, decide_true, decide_false, decide_eq_true_eq, cond_true, cond_false, Bool.and_true, Bool.and_false, Bool.true_and, Bool.false_and, f_iadd, f_isub, f_imul, f_ishl, f_ishr, f_iushr, f_iand, f_ior, f_idiv, f_irem, f_ineg, f_i2b, f_i2s, f_ladd, f_lmul, c_eq, c_ne, c_lt, c_ge, c_gt, c_le, cc_eq, cc_ne, cc_lt, cc_ge, cc_gt, cc_le, rfo, aof, csum, Value.category, List.take, List.drop, List.reverse, List.reverseAux, List.map, List.sum_cons, List.sum_nil, List.cons_append, List.nil_append, Option.toList, List.mem_cons, List.not_mem_nil, List.length_cons, List.length_nil, reduceIte, Nat.reduceEqDiff, Nat.reduceAdd, Nat.reduceLeDiff, Nat.reduceLT, a_day, Nat.zero_ne_one, Nat.one_ne_zero, false_and, and_false, true_and, and_true, or_false, false_or, or_true, true_or, not_true_eq_false, not_false_eq_true, Nat.zero_add, Nat.add_zero, Nat.le_refl, Nat.lt_irrefl, Nat.zero_lt_succ, Nat.zero_le, forall_const, List.cons.injEq, Value.int.injEq, Value.ref.injEq, Value.long.injEq, and_assoc, exists_and_left, exists_eq_left', forall_eq]
        refine ⟨tx.1.1, tx.1.2.1, p', rfl, hT, hp3, sz4, hR4.2.2.2.2.1, ?_⟩
        rw [nI_1]
        refine hK20 (3 - (p' + 1)) _ _ _ (by omega) ?_
        rw [hI20]
        exact ⟨m', S, V, p' + 1, i4, sz4, f4, rfl, rfl, by omega, rfl, hST, hJ4.r2 hT _ _, hR4.r2 hT _ _, h4'⟩
      have at38 : ∀ M3 sz3 f3, p' < 3 → RJ M nn r m' S V M3 → RSt M3 r m' m' sz3 f3 → FlA (M 4) nn m' S V f3 → BX3_read_38 g Q (T_X3_tokenize g) (T_X4_empty g) (T_X3_expect g) (T_X3_either g) (T_X4_endPart g) K20 [(0, .ref 3), (1, .ref r), (2, .int (nI p'))] [] M3 := by
        intro M3 sz3 f3 hp3 hJ3 hR3 hF
        unfold BX3_read_38
        simp only [T_X3_expect, i_const, i_lconst, i_iload, i_aload, i_lload, i_istore, i_astore, i_lstore, i_iinc, i_bin, i_div, i_un, i_i2l, i_l2i, i_lbin, i_lcmp, i_if, i_icmp, i_dup, i_dup_x1, i_dup2, i_pop, i_geti, i_getr, i_getd, i_puti, i_putz, i_putd, i_iald, i_bald, i_aald, i_iast, i_bast, i_alen, i_keep, i_ret, i_retz, i_reta, i_retl, i_retv, i_callv, i_callk, i_calls, i_mm, i_copy, i_under, i_undld, i_ldcs, i_sw, q_swc0, q_swc1, q_lg0, q_lg1, q_lent0, q_lent1, lset, lset2, q_lins0, q_lins1, q_ldel0, q_ldel1, q_ldel20, q_ldel21, q_lkeep0, q_lkeep1, q_memb0, q_memb1, cat2, Nat.reduceBEq, decide_true, decide_false, decide_eq_true_eq, cond_true, cond_false, Bool.and_true, Bool.and_false, Bool.true_and, Bool.false_and, f_iadd, f_isub, f_imul, f_ishl, f_ishr, f_iushr, f_iand, f_ior, f_idiv, f_irem, f_ineg, f_i2b, f_i2s, f_ladd, f_lmul, c_eq, c_ne, c_lt, c_ge, c_gt, c_le, cc_eq, cc_ne, cc_lt, cc_ge, cc_gt, cc_le, rfo, aof, csum, Value.category, List.take, List.drop, List.reverse, List.reverseAux, List.map, List.sum_cons, List.sum_nil, List.cons_append, List.nil_append, Option.toList, List.mem_cons, List.not_mem_nil, List.length_cons, List.length_nil, reduceIte, Nat.reduceEqDiff, Nat.reduceAdd, Nat.reduceLeDiff, Nat.reduceLT, a_day, Nat.zero_ne_one, Nat.one_ne_zero, false_and, and_false, true_and, and_true, or_false, false_or, or_true, true_or, not_true_eq_false, not_false_eq_true, Nat.zero_add, Nat.add_zero, Nat.le_refl, Nat.lt_irrefl, Nat.zero_lt_succ, Nat.zero_le, forall_const, List.cons.injEq, Value.int.injEq, Value.ref.injEq, Value.long.injEq, and_assoc, exists_and_left, exists_eq_left', forall_eq]
        have hS : M3 5 m' = 0 := by rw [hJ3.2.1]; exact hS0
        obtain ⟨hR4, hs4⟩ := hR3.fail2 hT hF.1
        refine ⟨(r_3 hr).1, (r_3 hr).2.1, m', hR3.1.1, m', hR3.2.1, hm, Nat.le_refl _, fun q => ?_, fun q => ?_, fun _ q => ?_, fun _ _ => ?_⟩
        · rw [hS] at q; exact absurd q (by decide)
        · rw [hS] at q; exact absurd q (by decide)
        · rw [hR3.2.2.2.1] at q; exact absurd q hF.1
        · exact at44 _ _ _ _ hp3 (hJ3.yp hT hs4) hR4 (Or.inr hF)
      have at32 : ∀ M2 sz2 f2, p' < 3 → RJ M nn r m' S V M2 → RSt M2 r m' m' sz2 f2 → FlA (M 4) nn m' S V f2 → BX3_read_32 g Q (T_X3_tokenize g) (T_X4_empty g) (T_X3_expect g) (T_X3_either g) (T_X4_endPart g) K20 [(0, .ref 3), (1, .ref r), (2, .int (nI p'))] [] M2 := by
        intro M2 sz2 f2 hp3 hJ2 hR2 hF
        unfold BX3_read_32
        simp only [T_X3_either, U_X3_either, Ucon, i_const, i_lconst, i_iload, i_aload, i_lload, i_istore, i_astore, i_lstore, i_iinc, i_bin, i_div, i_un, i_i2l, i_l2i, i_lbin, i_lcmp, i_if, i_icmp, i_dup, i_dup_x1, i_dup2, i_pop, i_geti, i_getr, i_getd, i_puti, i_putz, i_putd, i_iald, i_bald, i_aald, i_iast, i_bast, i_alen, i_keep, i_ret, i_retz, i_reta, i_retl, i_retv, i_callv, i_callk, i_calls, i_mm, i_copy, i_under, i_undld, i_ldcs, i_sw, q_swc0, q_swc1, q_lg0, q_lg1, q_lent0, q_lent1, lset, lset2, q_lins0, q_lins1, q_ldel0, q_ldel1, q_ldel20, q_ldel21, q_lkeep0, q_lkeep1, q_memb0, q_memb1, cat2, Nat.reduceBEq, decide_true, decide_false, decide_eq_true_eq, cond_true, cond_false, Bool.and_true, Bool.and_false, Bool.true_and, Bool.false_and, f_iadd, f_isub, f_imul, f_ishl, f_ishr, f_iushr, f_iand, f_ior, f_idiv, f_irem, f_ineg, f_i2b, f_i2s, f_ladd, f_lmul, c_eq, c_ne, c_lt, c_ge, c_gt, c_le, cc_eq, cc_ne, cc_lt, cc_ge, cc_gt, cc_le, rfo, aof, csum, Value.category, List.take, List.drop, List.reverse, List.reverseAux, List.map, List.sum_cons, List.sum_nil, List.cons_append, List.nil_append, Option.toList, List.mem_cons, List.not_mem_nil, List.length_cons, List.length_nil, reduceIte, Nat.reduceEqDiff, Nat.reduceAdd, Nat.reduceLeDiff, Nat.reduceLT, a_day, Nat.zero_ne_one, Nat.one_ne_zero, false_and, and_false, true_and, and_true, or_false, false_or, or_true, true_or, not_true_eq_false, not_false_eq_true, Nat.zero_add, Nat.add_zero, Nat.le_refl, Nat.lt_irrefl, Nat.zero_lt_succ, Nat.zero_le, forall_const, List.cons.injEq, Value.int.injEq, Value.ref.injEq, Value.long.injEq, and_assoc, exists_and_left, exists_eq_left', forall_eq]
        refine ⟨(r_3 hr).1, (r_3 hr).2.1, 0, rfl, hT, by decide, m', m', sz2, f2, hR2, fun M3 hM3 => ?_⟩
        rcases hM3 with ⟨hs3, f3, sz3, hR3, g1, g2, g3⟩ | ⟨q, -⟩
        · have := g2 hF.1
          subst this
          exact at38 _ _ _ hp3 (hJ2.yp hT hs3) hR3 hF
        · exact absurd q hF.1
      have at32b : ∀ M2 cs e, p' < 3 → RJ M nn r m' S V M2 → RSt M2 r m' (i + 1) sz (-1) → S i = nI (4 + p') → PGs S V p' cs i → PTx M2 r p' cs e sz → BX3_read_32 g Q (T_X3_tokenize g) (T_X4_empty g) (T_X3_expect g) (T_X3_either g) (T_X4_endPart g) K20 [(0, .ref 3), (1, .ref r), (2, .int (nI p'))] [] M2 := by
        intro M2 cs e hp3 hJ2 hR2 hSi hPG hPT
        unfold BX3_read_32
        simp only [T_X3_either, U_X3_either, Ucon, i_const, i_lconst, i_iload, i_aload, i_lload, i_istore, i_astore, i_lstore, i_iinc, i_bin, i_div, i_un, i_i2l, i_l2i, i_lbin, i_lcmp, i_if, i_icmp, i_dup, i_dup_x1, i_dup2, i_pop, i_geti, i_getr, i_getd, i_puti, i_putz, i_putd, i_iald, i_bald, i_aald, i_iast, i_bast, i_alen, i_keep, i_ret, i_retz, i_reta, i_retl, i_retv, i_callv, i_callk, i_calls, i_mm, i_copy, i_under, i_undld, i_ldcs, i_sw, q_swc0, q_swc1, q_lg0, q_lg1, q_lent0, q_lent1, lset, lset2, q_lins0, q_lins1, q_ldel0, q_ldel1, q_ldel20, q_ldel21, q_lkeep0, q_lkeep1, q_memb0, q_memb1, cat2, Nat.reduceBEq, decide_true, decide_false, decide_eq_true_eq, cond_true, cond_false, Bool.and_true, Bool.and_false, Bool.true_and, Bool.false_and, f_iadd, f_isub, f_imul, f_ishl, f_ishr, f_iushr, f_iand, f_ior, f_idiv, f_irem, f_ineg, f_i2b, f_i2s, f_ladd, f_lmul, c_eq, c_ne, c_lt, c_ge, c_gt, c_le, cc_eq, cc_ne, cc_lt, cc_ge, cc_gt, cc_le, rfo, aof, csum, Value.category, List.take, List.drop, List.reverse, List.reverseAux, List.map, List.sum_cons, List.sum_nil, List.cons_append, List.nil_append, Option.toList, List.mem_cons, List.not_mem_nil, List.length_cons, List.length_nil, reduceIte, Nat.reduceEqDiff, Nat.reduceAdd, Nat.reduceLeDiff, Nat.reduceLT, a_day, Nat.zero_ne_one, Nat.one_ne_zero, false_and, and_false, true_and, and_true, or_false, false_or, or_true, true_or, not_true_eq_false, not_false_eq_true, Nat.zero_add, Nat.add_zero, Nat.le_refl, Nat.lt_irrefl, Nat.zero_lt_succ, Nat.zero_le, forall_const, List.cons.injEq, Value.int.injEq, Value.ref.injEq, Value.long.injEq, and_assoc, exists_and_left, exists_eq_left', forall_eq]
        refine ⟨(r_3 hr).1, (r_3 hr).2.1, 0, rfl, hT, by decide, m', i + 1, sz, -1, hR2, fun M3 hM3 => ?_⟩
        rw [hJ2.2.1, hJ2.2.2.1] at hM3
        rcases hM3 with ⟨hs3, f3, sz3, hR3, g1, g2, g3⟩ | ⟨-, hs3, j, c1, hj, hR3, hcl, hq, hq2, hw, hG, hfo⟩
        · obtain ⟨k, hk1, hk2, hF, e3⟩ := g3 rfl
          refine at38 _ _ _ hp3 (hJ2.yp hT hs3) hR3 ⟨g1, k, hk2, Or.inl ⟨p', i, cs, hp3, hPG, Or.inr ⟨hSi, hk1, ?_⟩⟩, by rw [e3]; exact hJ2.2.2.2 k hk2⟩
          exact hF [] [] rfl (by decide)
        · have hJ3 := hJ2.yp hT hs3
          have hjm := hR3.2.2.1
          have h5j : M3 5 j = S j := by rw [hJ3.2.1]
          have hrow2 : M3 (r + 2) = M2 (r + 2) := funext fun x => hs3 _ _ (by unfold YP; omega)
          unfold BX3_read_38
          simp only [T_X3_expect, i_const, i_lconst, i_iload, i_aload, i_lload, i_istore, i_astore, i_lstore, i_iinc, i_bin, i_div, i_un, i_i2l, i_l2i, i_lbin, i_lcmp, i_if, i_icmp, i_dup, i_dup_x1, i_dup2, i_pop, i_geti, i_getr, i_getd, i_puti, i_putz, i_putd, i_iald, i_bald, i_aald, i_iast, i_bast, i_alen, i_keep, i_ret, i_retz, i_reta, i_retl, i_retv, i_callv, i_callk, i_calls, i_mm, i_copy, i_under, i_undld, i_ldcs, i_sw, q_swc0, q_swc1, q_lg0, q_lg1, q_lent0, q_lent1, lset, lset2, q_lins0, q_lins1, q_ldel0, q_ldel1, q_ldel20, q_ldel21, q_lkeep0, q_lkeep1, q_memb0, q_memb1, cat2, Nat.reduceBEq, decide_true, decide_false, decide_eq_true_eq, cond_true, cond_false, Bool.and_true, Bool.and_false, Bool.true_and, Bool.false_and, f_iadd, f_isub, f_imul, f_ishl, f_ishr, f_iushr, f_iand, f_ior, f_idiv, f_irem, f_ineg, f_i2b, f_i2s, f_ladd, f_lmul, c_eq, c_ne, c_lt, c_ge, c_gt, c_le, cc_eq, cc_ne, cc_lt, cc_ge, cc_gt, cc_le, rfo, aof, csum, Value.category, List.take, List.drop, List.reverse, List.reverseAux, List.map, List.sum_cons, List.sum_nil, List.cons_append, List.nil_append, Option.toList, List.mem_cons, List.not_mem_nil, List.length_cons, List.length_nil, reduceIte, Nat.reduceEqDiff, Nat.reduceAdd, Nat.reduceLeDiff, Nat.reduceLT, a_day, Nat.zero_ne_one, Nat.one_ne_zero, false_and, and_false, true_and, and_true, or_false, false_or, or_true, true_or, not_true_eq_false, not_false_eq_true, Nat.zero_add, Nat.add_zero, Nat.le_refl, Nat.lt_irrefl, Nat.zero_lt_succ, Nat.zero_le, forall_const, List.cons.injEq, Value.int.injEq, Value.ref.injEq, Value.long.injEq, and_assoc, exists_and_left, exists_eq_left', forall_eq]
          refine ⟨(r_3 hr).1, (r_3 hr).2.1, m', hR3.1.1, j, hR3.2.1, hm, hjm, fun q w => ?_, fun q w => ?_, fun q w => ?_, fun q w => ?_⟩ <;> rw [h5j] at q
          · obtain ⟨hR4, hs4⟩ := hR3.go hT w
            obtain ⟨o2, W2, cm', st', e2, hl, hk⟩ := hG [] [] rfl (by decide)
            refine at44 _ _ _ _ hp3 (hJ3.yp hT hs4) hR4 (Or.inl ⟨rfl, _, _, ⟨i, PGs_e (fun q hq => if_neg (by omega)) hPG, hSi, j, _, rfl, by omega, e2, rfl, ?_, q⟩, hPT.add (c := c1) ?_ ?_ ?_ hw⟩)
            · rw [hl]; simp
            · intro q hq'
              rw [ms_q (by omega)]; exact hq q hq'
            · rw [← hrow2]; exact funext fun x => ms_q (by omega)
            · intro q x hx
              rw [ms_q (by omega)]; exact hq2 q x hx
          · rw [w, hS0] at q; exact absurd q (by decide)
          · obtain ⟨x, hx1, hx2⟩ := part_mis (i := i) (j := j) (by omega) q hfo hG
            obtain ⟨hs4, f4, sz4, hR4, g1, g2, g3⟩ := hR3.fail hT (F := fun k => k = j) rfl
            obtain ⟨k, hk1, hk2, rfl, e3⟩ := g3 rfl
            exact at44 _ _ _ _ hp3 (hJ3.yp hT hs4) hR4 (Or.inr ⟨g1, k, hk2, Or.inl ⟨p', i, cs, hp3, hPG, Or.inr ⟨hSi, by omega, x, hx1, hx2⟩⟩, by rw [e3]; exact hJ3.2.2.2 k hk2⟩)
          · exact absurd hR3.2.2.2.1 w
      have at60 : ∀ M4 f4, M4 3 7 = f4 → RJ M nn r m' S V M4 → ((f4 = -1 ∧ ∃ cs e sz, GdS S V cs ∧ PTx M4 r 3 cs e sz ∧ sz ≤ 160) ∨ FlA (M 4) nn m' S V f4) → BX3_read_60 g Q (T_X3_tokenize g) (T_X4_empty g) (T_X3_expect g) (T_X3_either g) (T_X4_endPart g) K20 [(0, .ref 3), (1, .ref r), (2, .int (nI p'))] [] M4 := by
        intro M4 f4 h7 hJ4 h4'
        unfold BX3_read_60
        simp only [i_const, i_lconst, i_iload, i_aload, i_lload, i_istore, i_astore, i_lstore, i_iinc, i_bin, i_div, i_un, i_i2l, i_l2i, i_lbin, i_lcmp, i_if, i_icmp, i_dup, i_dup_x1, i_dup2, i_pop, i_geti, i_getr, i_getd, i_puti, i_putz, i_putd, i_iald, i_bald, i_aald, i_iast, i_bast, i_alen, i_keep, i_ret, i_retz, i_reta, i_retl, i_retv, i_callv, i_callk, i_calls, i_mm, i_copy, i_under, i_undld, i_ldcs, i_sw, q_swc0, q_swc1, q_lg0, q_lg1, q_lent0, q_lent1, lset, lset2, q_lins0, q_lins1, q_ldel0, q_ldel1, q_ldel20, q_ldel21, q_lkeep0, q_lkeep1, q_memb0, q_memb1, cat2, Nat.reduceBEq, decide_true, decide_false, decide_eq_true_eq, cond_true, cond_false, Bool.and_true, Bool.and_false, Bool.true_and, Bool.false_and, f_iadd, f_isub, f_imul, f_ishl, f_ishr, f_iushr, f_iand, f_ior, f_idiv, f_irem, f_ineg, f_i2b, f_i2s, f_ladd, f_lmul, c_eq, c_ne, c_lt, c_ge, c_gt, c_le, cc_eq, cc_ne, cc_lt, cc_ge, cc_gt, cc_le, rfo, aof, csum, Value.category, List.take, List.drop, List.reverse, List.reverseAux, List.map, List.sum_cons, List.sum_nil, List.cons_append, List.nil_append, Option.toList, List.mem_cons, List.not_mem_nil, List.length_cons, List.length_nil, reduceIte, Nat.reduceEqDiff, Nat.reduceAdd, Nat.reduceLeDiff, Nat.reduceLT, a_day, Nat.zero_ne_one, Nat.one_ne_zero, false_and, and_false, true_and, and_true, or_false, false_or, or_true, true_or, not_true_eq_false, not_false_eq_true, Nat.zero_add, Nat.add_zero, Nat.le_refl, Nat.lt_irrefl, Nat.zero_lt_succ, Nat.zero_le, forall_const, List.cons.injEq, Value.int.injEq, Value.ref.injEq, Value.long.injEq, and_assoc, exists_and_left, exists_eq_left', forall_eq]
        rw [ms_j (by decide), h7]
        refine ⟨r_3 hr, r_3 hr, h m' S V _ f4 hST (hJ4.1.set _ (Or.inr (Or.inr (Or.inr ⟨rfl, rfl⟩)))) (ms_s _ _ _ _) ?_⟩
        rcases h4' with ⟨q, cs, e, sz4, hG, hP, hsz⟩ | q
        · have hP' : PTx (mset M4 3 4 0) r 3 cs e sz4 := hP.q (funext fun x => ms_q (by omega)) (funext fun x => ms_q (by omega))
          refine Or.inr ⟨q, cs, hG, fun p hp => (hP.2.2 p hp).2.2.2, ?_, hP'.tx hsz⟩
          have a0 := (hP.2.2 0 (by decide)).2.1
          have a1 := (hP.2.2 1 (by decide)).2.1
          have a2 := (hP.2.2 2 (by decide)).2.1
          have b0 := hP.1
          have b3 := hP.2.1
          simp only [Nat.zero_add, Nat.reduceAdd] at a0 a1 a2
          omega
        · exact Or.inl q
      rw [show (3 : Int32) = nI 3 from rfl, nI_leI (by decide) (by omega)]
      refine ⟨fun z => ?_, fun z => ⟨(r_3 hr).1, (r_3 hr).2.1, m', hR.1.1, i, hR.2.1, hm, hR.2.2.1, ?_⟩⟩
      · have hp3 : p' = 3 := by omega
        subst hp3
        subst hB55
        unfold BX3_read_55
        generalize hB60 : BX3_read_60 g Q (T_X3_tokenize g) (T_X4_empty g) (T_X3_expect g) (T_X3_either g) (T_X4_endPart g) K20 = B60
        simp only [T_X3_tokenize, T_X4_empty, T_X3_expect, T_X3_either, T_X4_endPart, i_const, i_lconst, i_iload, i_aload, i_lload, i_istore, i_astore, i_lstore, i_iinc, i_bin, i_div, i_un, i_i2l, i_l2i, i_lbin, i_lcmp, i_if, i_icmp, i_dup, i_dup_x1, i_dup2, i_pop, i_geti, i_getr, i_getd, i_puti, i_putz, i_putd, i_iald, i_bald, i_aald, i_iast, i_bast, i_alen, i_keep, i_ret, i_retz, i_reta, i_retl, i_retv, i_callv, i_callk, i_calls, i_mm, i_copy, i_under, i_undld, i_ldcs, i_sw, q_swc0, q_swc1, q_lg0, q_lg1, q_lent0, q_lent1, lset, lset2, q_lins0, q_lins1, q_ldel0, q_ldel1, q_ldel20, q_ldel21, q_lkeep0, q_lkeep1, q_memb0, q_memb1, cat2, Nat.reduceBEq, decide_true, decide_false, decide_eq_true_eq, cond_true, cond_false, Bool.and_true, Bool.and_false, Bool.true_and, Bool.false_and, f_iadd, f_isub, f_imul, f_ishl, f_ishr, f_iushr, f_iand, f_ior, f_idiv, f_irem, f_ineg, f_i2b, f_i2s, f_ladd, f_lmul, c_eq, c_ne, c_lt, c_ge, c_gt, c_le, cc_eq, cc_ne, cc_lt, cc_ge, cc_gt, cc_le, rfo, aof, csum, Value.category, List.take, List.drop, List.reverse, List.reverseAux, List.map, List.sum_cons, List.sum_nil, List.cons_append, List.nil_append, Option.toList, List.mem_cons, List.not_mem_nil, List.length_cons, List.length_nil, reduceIte, Nat.reduceEqDiff, Nat.reduceAdd, Nat.reduceLeDiff, Nat.reduceLT, a_day, Nat.zero_ne_one, Nat.one_ne_zero, false_and, and_false, true_and, and_true, or_false, false_or, or_true, true_or, not_true_eq_false, not_false_eq_true, Nat.zero_add, Nat.add_zero, Nat.le_refl, Nat.lt_irrefl, Nat.zero_lt_succ, Nat.zero_le, forall_const, List.cons.injEq, Value.int.injEq, Value.ref.injEq, Value.long.injEq, and_assoc, exists_and_left, exists_eq_left']
        try simp only [forall_eq]
        have hi := hR.2.2.1
        have h5i : M1 5 i = S i := by rw [hJ.2.1]
        refine ⟨(r_3 hr).1, (r_3 hr).2.1, m', hR.1.1, i, hR.2.1, hm, hi, ?_⟩
        rw [h5i]
        subst hB60
        rcases hor with ⟨rfl, cs, e, hPG, hPT⟩ | hF
        · have hsz := hR.2.2.2.2.2.1
          refine ⟨fun q w => ?_, fun q w => ?_, fun q w => ?_, fun q w => absurd hR.2.2.2.1 w⟩
          · obtain ⟨hR4, hs4⟩ := hR.go hT w
            exact at60 _ _ hR4.2.2.2.1 (hJ.yp hT hs4) (Or.inl ⟨rfl, cs, e, sz, ⟨i, hPG, q⟩, hPT.q (funext fun x => ms_q (by omega)) (funext fun x => ms_q (by omega)), hsz⟩)
          · exact at60 _ _ hR.2.2.2.1 hJ (Or.inl ⟨rfl, cs, e, sz, ⟨i, hPG, q⟩, hPT, hsz⟩)
          · obtain ⟨hs4, f4, sz4, hR4, g1, g2, g3⟩ := hR.fail hT (F := fun k => k = i) rfl
            obtain ⟨k, hk1, hk2, rfl, e3⟩ := g3 rfl
            exact at60 _ _ hR4.2.2.2.1 (hJ.yp hT hs4) (Or.inr ⟨g1, k, hk2, Or.inr ⟨cs, hPG, q⟩, by rw [e3]; exact hJ.2.2.2 k hk2⟩)
        · have him : i = m' := hR.2.2.2.2.2.2.2 hF.1
          subst him
          refine ⟨fun q w => absurd w (Nat.lt_irrefl _), fun q w => at60 _ _ hR.2.2.2.1 hJ (Or.inr hF), fun q w => absurd hS0 q, fun q w => absurd hS0 q⟩
      · have hp3 : p' < 3 := by omega
        have h5i : M1 5 i = S i := by rw [hJ.2.1]
        rw [h5i, show (4 : Int32) = nI 4 from rfl, nI_add]
        have hS4 : ¬ (0 : Int32) = nI (4 + p') := fun q => absurd ((nI_eq (a := 0) (b := 4 + p') (by decide) (by omega)).mp q) (by omega)
        subst hB32
        rcases hor with ⟨rfl, cs, e, hPG, hPT⟩ | hF
        · refine ⟨fun q w => ?_, fun q w => ?_, fun q w => ?_, fun q w => absurd hR.2.2.2.1 w⟩
          · obtain ⟨hR4, hs4⟩ := hR.go hT w
            exact at32b _ cs e hp3 (hJ.yp hT hs4) hR4 q hPG (hPT.q (funext fun x => ms_q (by omega)) (funext fun x => ms_q (by omega)))
          · rw [w, hS0] at q; exact absurd q hS4
          · obtain ⟨hs4, f4, sz4, hR4, g1, g2, g3⟩ := hR.fail hT (F := fun k => k = i) rfl
            obtain ⟨k, hk1, hk2, rfl, e3⟩ := g3 rfl
            exact at32 _ _ _ hp3 (hJ.yp hT hs4) hR4 ⟨g1, k, hk2, Or.inl ⟨p', k, cs, hp3, hPG, Or.inl ⟨rfl, q⟩⟩, by rw [e3]; exact hJ.2.2.2 k hk2⟩
        · have him : i = m' := hR.2.2.2.2.2.2.2 hF.1
          subst him
          rw [hS0]
          obtain ⟨hR4, hs4⟩ := hR.fail2 hT hF.1
          exact ⟨fun q => absurd q hS4, fun q => absurd q hS4, fun _ w => absurd (hR.2.2.2.1.symm.trans w) hF.1, fun _ _ => at32 _ _ _ hp3 (hJ.yp hT hs4) hR4 hF⟩
    refine s_of (fun lv st M0 hs => ?_) (WX3_read_0 C (t_X3_tokenize hr) (by decide) (t_X4_empty hr) (by decide) (t_X3_expect hr) (by decide) (t_X3_either hr) (by decide) (t_X4_endPart hr) (by decide) L20)
    obtain ⟨rfl, rfl, rfl⟩ := hs
    unfold BX3_read_0
    generalize hB4 : BX3_read_4 g Q (T_X3_tokenize g) (T_X4_empty g) (T_X3_expect g) (T_X3_either g) (T_X4_endPart g) E20 = B4
    simp only [T_X3_tokenize, T_X4_empty, T_X3_expect, T_X3_either, T_X4_endPart, i_const, i_lconst, i_iload, i_aload, i_lload, i_istore, i_astore, i_lstore, i_iinc, i_bin, i_div, i_un, i_i2l, i_l2i, i_lbin, i_lcmp, i_if, i_icmp, i_dup, i_dup_x1, i_dup2, i_pop, i_geti, i_getr, i_getd, i_puti, i_putz, i_putd, i_iald, i_bald, i_aald, i_iast, i_bast, i_alen, i_keep, i_ret, i_retz, i_reta, i_retl, i_retv, i_callv, i_callk, i_calls, i_mm, i_copy, i_under, i_undld, i_ldcs, i_sw, q_swc0, q_swc1, q_lg0, q_lg1, q_lent0, q_lent1, lset, lset2, q_lins0, q_lins1, q_ldel0, q_ldel1, q_ldel20, q_ldel21, q_lkeep0, q_lkeep1, q_memb0, q_memb1, cat2, Nat.reduceBEq, decide_true, decide_false, decide_eq_true_eq, cond_true, cond_false, Bool.and_true, Bool.and_false, Bool.true_and, Bool.false_and, f_iadd, f_isub, f_imul, f_ishl, f_ishr, f_iushr, f_iand, f_ior, f_idiv, f_irem, f_ineg, f_i2b, f_i2s, f_ladd, f_lmul, c_eq, c_ne, c_lt, c_ge, c_gt, c_le, cc_eq, cc_ne, cc_lt, cc_ge, cc_gt, cc_le, rfo, aof, csum, Value.category, List.take, List.drop, List.reverse, List.reverseAux, List.map, List.sum_cons, List.sum_nil, List.cons_append, List.nil_append, Option.toList, List.mem_cons, List.not_mem_nil, List.length_cons, List.length_nil, reduceIte, Nat.reduceEqDiff, Nat.reduceAdd, Nat.reduceLeDiff, Nat.reduceLT, a_day, Nat.zero_ne_one, Nat.one_ne_zero, false_and, and_false, true_and, and_true, or_false, false_or, or_true, true_or, not_true_eq_false, not_false_eq_true, Nat.zero_add, Nat.add_zero, Nat.le_refl, Nat.lt_irrefl, Nat.zero_lt_succ, Nat.zero_le, forall_const, List.cons.injEq, Value.int.injEq, Value.ref.injEq, Value.long.injEq, and_assoc, exists_and_left, exists_eq_left']
    try simp only [forall_eq]
    refine ⟨(r_3 hr).1, (r_3 hr).2.1, nn, h4, hnn, fun m' M1 hm hpl h5 hTF h50 h60 h7 hs => ?_⟩
    subst hB4
    unfold BX3_read_4
    simp only [T_X3_tokenize, T_X4_empty, T_X3_expect, T_X3_either, T_X4_endPart, i_const, i_lconst, i_iload, i_aload, i_lload, i_istore, i_astore, i_lstore, i_iinc, i_bin, i_div, i_un, i_i2l, i_l2i, i_lbin, i_lcmp, i_if, i_icmp, i_dup, i_dup_x1, i_dup2, i_pop, i_geti, i_getr, i_getd, i_puti, i_putz, i_putd, i_iald, i_bald, i_aald, i_iast, i_bast, i_alen, i_keep, i_ret, i_retz, i_reta, i_retl, i_retv, i_callv, i_callk, i_calls, i_mm, i_copy, i_under, i_undld, i_ldcs, i_sw, q_swc0, q_swc1, q_lg0, q_lg1, q_lent0, q_lent1, lset, lset2, q_lins0, q_lins1, q_ldel0, q_ldel1, q_ldel20, q_ldel21, q_lkeep0, q_lkeep1, q_memb0, q_memb1, cat2, Nat.reduceBEq, decide_true, decide_false, decide_eq_true_eq, cond_true, cond_false, Bool.and_true, Bool.and_false, Bool.true_and, Bool.false_and, f_iadd, f_isub, f_imul, f_ishl, f_ishr, f_iushr, f_iand, f_ior, f_idiv, f_irem, f_ineg, f_i2b, f_i2s, f_ladd, f_lmul, c_eq, c_ne, c_lt, c_ge, c_gt, c_le, cc_eq, cc_ne, cc_lt, cc_ge, cc_gt, cc_le, rfo, aof, csum, Value.category, List.take, List.drop, List.reverse, List.reverseAux, List.map, List.sum_cons, List.sum_nil, List.cons_append, List.nil_append, Option.toList, List.mem_cons, List.not_mem_nil, List.length_cons, List.length_nil, reduceIte, Nat.reduceEqDiff, Nat.reduceAdd, Nat.reduceLeDiff, Nat.reduceLT, a_day, Nat.zero_ne_one, Nat.one_ne_zero, false_and, and_false, true_and, and_true, or_false, false_or, or_true, true_or, not_true_eq_false, not_false_eq_true, Nat.zero_add, Nat.add_zero, Nat.le_refl, Nat.lt_irrefl, Nat.zero_lt_succ, Nat.zero_le, forall_const, List.cons.injEq, Value.int.injEq, Value.ref.injEq, Value.long.injEq, and_assoc, exists_and_left, exists_eq_left']
    try simp only [forall_eq]
    refine ⟨r_3 hr, r_3 hr, tx.1.1, tx.1.2.1, hT, fun M2 hs2 h24 => iE20 (3 - 0) _ _ _ ?_⟩
    rw [hI20]
    have hsm : Sm (YP r) M1 (mset (mset M1 3 6 0) 3 7 (-1)) := (Sm.rf.set _ (Or.inl ⟨rfl, Or.inl rfl⟩)).set _ (Or.inl ⟨rfl, Or.inr rfl⟩)
    have e2 : ∀ q, 4 ≤ q → q < 8 → M2 q = M1 q := fun q h1 h2 => funext fun j => by rw [hs2 q j (by omega), ms_q (by omega), ms_q (by omega)]
    have e35 : M2 3 5 = nI m' := by rw [hs2 3 5 (by omega), ms_j (by decide), ms_j (by decide)]; exact h5
    have hTP : TPm M2 m' := by
      have := hTF.TPm hm hnn h5 h50 h7
      unfold TPm at this ⊢
      rw [e2 5 (by decide) (by decide), e2 6 (by decide) (by decide), e2 7 (by decide) (by decide), e35]
      exact ⟨rfl, this.2⟩
    refine ⟨m', M1 5, M1 6, 0, 0, 0, -1, rfl, rfl, by decide, rfl, ⟨hm, hpl, h50, h60, fun k hk => ⟨(hTF k hk).1, (hTF k hk).2.2.1, (hTF k hk).2.2.2⟩⟩, ⟨?_, e2 5 (by decide) (by decide), e2 6 (by decide) (by decide), fun k hk => ?_⟩, ⟨hTP, ?_, Nat.zero_le _, ?_, h24, by decide, fun _ => Nat.le_refl _, fun q => absurd rfl q⟩, Or.inl ⟨rfl, fun _ => [], fun _ => 0, rfl, rfl, rfl, fun q hq => absurd hq (by omega)⟩⟩
    · refine (hs.mono fun _ _ q => Or.inl q).tr ((hsm.mono fun _ _ q => Or.inr (Or.inl q)).tr (hs2.mono fun a b q => ?_))
      rcases q with q | q
      · exact Or.inr (Or.inl (Or.inr (Or.inl q)))
      · exact Or.inr (Or.inr (Or.inl q))
    · rw [e2 7 (by decide) (by decide)]
      by_cases g : k = m'
      · rw [g, h7, hpl]
      · exact (hTF k (by omega)).2.1
    · rw [hs2 3 6 (by omega), ms_j (by decide), ms_s]; rfl
    · rw [hs2 3 7 (by omega), ms_s]
def T_X5_text (g : WG) (as : List Value) (M : MM) (Q : Option Value → MM → Prop) : Prop := ∃ T n, as = [.ref 0] ∧ M 0 6 = nI T ∧ T ≤ 6 ∧ M 3 4 = nI n ∧ n ≤ 160 ∧ (T = 6 → Q (some (.int (-4))) M) ∧ (T < 6 → ∀ m S V M' f, STR (M 4) n m S V → Sm (YRd (8 + 4 * T)) M M' → M' 3 4 = 0 → FlA (M 4) n m S V f → Q (some (.int (-100 - f))) M') ∧ (T < 6 → ∀ m S V M' cs, STR (M 4) n m S V → Sm (fun a b => YRd (8 + 4 * T) a b ∨ (a = 0 ∧ b = 6)) M M' → M' 3 4 = 0 → M' 0 6 = nI (T + 1) → GdS S V cs → (∀ p, p < 3 → wfc 1 (cs p)) → (cs 0).length + (cs 1).length + (cs 2).length ≤ 160 → txOK M' (8 + 4 * T) → (∀ p, p < 3 → xc M' (8 + 4 * T) p = (cs p).map tr) → Q (some (.int (nI T))) M')
set_option maxRecDepth 100000 in
set_option maxHeartbeats 1000000 in
theorem t_X5_text {l : Launch} {g : WG} (hg : Full g) : Ct l g yX5_text cX5_text 2 ((Option.some FieldType.int)) 56 (T_X5_text g) := by
  refine Ct.of (by decide) (fun as M Q h => ?_) (fun p e s m args below meth c as M Q h C => ?_)
  · obtain ⟨T, nn, rfl, h6, hT, h4, hnn, g1, g2, g3⟩ := h; exact ⟨by simp, by simp [Value.category]⟩
  · obtain ⟨T, nn, rfl, h6, hT, h4, hnn, g1, g2, g3⟩ := h
    refine s_of (fun lv st M0 hs => ?_) (WX5_text_0 C (t_X3_read (tape_r hg)) (by decide))
    obtain ⟨rfl, rfl, rfl⟩ := hs
    unfold BX5_text_0
    generalize hB28 : BX5_text_28 g Q (T_X3_read g) = B28
    simp only [T_X3_read, i_const, i_lconst, i_iload, i_aload, i_lload, i_istore, i_astore, i_lstore, i_iinc, i_bin, i_div, i_un, i_i2l, i_l2i, i_lbin, i_lcmp, i_if, i_icmp, i_dup, i_dup_x1, i_dup2, i_pop, i_geti, i_getr, i_getd, i_puti, i_putz, i_putd, i_iald, i_bald, i_aald, i_iast, i_bast, i_alen, i_keep, i_ret, i_retz, i_reta, i_retl, i_retv, i_callv, i_callk, i_calls, i_mm, i_copy, i_under, i_undld, i_ldcs, i_sw, q_swc0, q_swc1, q_lg0, q_lg1, q_lent0, q_lent1, lset, lset2, q_lins0, q_lins1, q_ldel0, q_ldel1, q_ldel20, q_ldel21, q_lkeep0, q_lkeep1, q_memb0, q_memb1, cat2, Nat.reduceBEq, decide_true, decide_false, decide_eq_true_eq, cond_true, cond_false, Bool.and_true, Bool.and_false, Bool.true_and, Bool.false_and, f_iadd, f_isub, f_imul, f_ishl, f_ishr, f_iushr, f_iand, f_ior, f_idiv, f_irem, f_ineg, f_i2b, f_i2s, f_ladd, f_lmul, c_eq, c_ne, c_lt, c_ge, c_gt, c_le, cc_eq, cc_ne, cc_lt, cc_ge, cc_gt, cc_le, rfo, aof, csum, Value.category, List.take, List.drop, List.reverse, List.reverseAux, List.map, List.sum_cons, List.sum_nil, List.cons_append, List.nil_append, Option.toList, List.mem_cons, List.not_mem_nil, List.length_cons, List.length_nil, reduceIte, Nat.reduceEqDiff, Nat.reduceAdd, Nat.reduceLeDiff, Nat.reduceLT, a_day, Nat.zero_ne_one, Nat.one_ne_zero, false_and, and_false, true_and, and_true, or_false, false_or, or_true, true_or, not_true_eq_false, not_false_eq_true, Nat.zero_add, Nat.add_zero, Nat.le_refl, Nat.lt_irrefl, Nat.zero_lt_succ, Nat.zero_le, forall_const, List.cons.injEq, Value.int.injEq, Value.ref.injEq, Value.long.injEq, and_assoc, exists_and_left, exists_eq_left']
    try simp only [forall_eq]
    rw [h6, nI_clamp (by omega), show (6 : Int32) = nI 6 from rfl, nI_ltI (by omega) (by decide), show 1 + (7 + 4 * T) = 8 + 4 * T by omega]
    have t5 : okq g 5 0 := okR hg (by decide) (by decide) rfl
    have t1 : okq g 11 1 := okR hg (by decide) (by decide) rfl
    have t3 := r_3 (tape_r hg)
    refine ⟨t5, fun hl => ⟨t5, t5, t5, t1, vp_in_nI (n := T) (N := 6) hl (by decide), t3.1, t3.2.1, ⟨T, hl, rfl⟩, nn, h4, hnn, fun m' S V M1 f hST hs h34 hor => ?_⟩, fun hl => g1 (by omega)⟩
    subst hB28
    unfold BX5_text_28
    simp only [T_X3_read, i_const, i_lconst, i_iload, i_aload, i_lload, i_istore, i_astore, i_lstore, i_iinc, i_bin, i_div, i_un, i_i2l, i_l2i, i_lbin, i_lcmp, i_if, i_icmp, i_dup, i_dup_x1, i_dup2, i_pop, i_geti, i_getr, i_getd, i_puti, i_putz, i_putd, i_iald, i_bald, i_aald, i_iast, i_bast, i_alen, i_keep, i_ret, i_retz, i_reta, i_retl, i_retv, i_callv, i_callk, i_calls, i_mm, i_copy, i_under, i_undld, i_ldcs, i_sw, q_swc0, q_swc1, q_lg0, q_lg1, q_lent0, q_lent1, lset, lset2, q_lins0, q_lins1, q_ldel0, q_ldel1, q_ldel20, q_ldel21, q_lkeep0, q_lkeep1, q_memb0, q_memb1, cat2, Nat.reduceBEq, decide_true, decide_false, decide_eq_true_eq, cond_true, cond_false, Bool.and_true, Bool.and_false, Bool.true_and, Bool.false_and, f_iadd, f_isub, f_imul, f_ishl, f_ishr, f_iushr, f_iand, f_ior, f_idiv, f_irem, f_ineg, f_i2b, f_i2s, f_ladd, f_lmul, c_eq, c_ne, c_lt, c_ge, c_gt, c_le, cc_eq, cc_ne, cc_lt, cc_ge, cc_gt, cc_le, rfo, aof, csum, Value.category, List.take, List.drop, List.reverse, List.reverseAux, List.map, List.sum_cons, List.sum_nil, List.cons_append, List.nil_append, Option.toList, List.mem_cons, List.not_mem_nil, List.length_cons, List.length_nil, reduceIte, Nat.reduceEqDiff, Nat.reduceAdd, Nat.reduceLeDiff, Nat.reduceLT, a_day, Nat.zero_ne_one, Nat.one_ne_zero, false_and, and_false, true_and, and_true, or_false, false_or, or_true, true_or, not_true_eq_false, not_false_eq_true, Nat.zero_add, Nat.add_zero, Nat.le_refl, Nat.lt_irrefl, Nat.zero_lt_succ, Nat.zero_le, forall_const, List.cons.injEq, Value.int.injEq, Value.ref.injEq, Value.long.injEq, and_assoc, exists_and_left, exists_eq_left']
    try simp only [forall_eq]
    have e06 : M1 0 6 = nI T := by rw [hs 0 6 (by unfold YRd YT YP; omega)]; exact h6
    refine ⟨fun q => ?_, fun q => ?_⟩
    · rcases hor with hF | ⟨-, cs, a1, a2, a3, a4, a5⟩
      · exact absurd q hF.1
      · rw [e06, ms_s, nI_1, nI_pred]
        have e1 : ∀ q, 8 ≤ q → mset M1 0 6 (nI (T + 1)) q = M1 q := fun q hq => funext fun j => ms_q (by omega)
        refine ⟨t5, t5, t5, g3 hl m' S V _ cs hST ((hs.mono fun _ _ q => Or.inl q).set _ (Or.inr ⟨rfl, rfl⟩)) (by rw [ms_q (by decide)]; exact h34) (ms_s _ _ _ _) a1 a2 a3 ?_ ?_⟩
        · simp only [txOK, xc, xb, xe, e1 (8 + 4 * T + 1) (by omega), e1 (8 + 4 * T + 2) (by omega)] at a4 ⊢
          exact a4
        · simp only [xc, xb, xe, e1 (8 + 4 * T + 1) (by omega), e1 (8 + 4 * T + 2) (by omega)] at a5 ⊢
          exact a5
    · rcases hor with hF | ⟨hf, -⟩
      · exact g2 hl m' S V M1 f hST hs h34 hF
      · exact absurd hf q
    
