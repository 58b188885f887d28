/-! ===== the class: the host ===== -/
theorem srt_1 {x : Int32} : ((x = -1) ∨ (0 ≤ x ∧ x ≤ 2)) ↔ (-1 ≤ x ∧ x ≤ 2) := by
  constructor
  · intro h
    rcases h with h | h
    · rw [h]; decide
    · simp only [i_le, t_m1, t_0, t_2] at h ⊢; omega
  · intro h
    by_cases e : x = -1
    · exact Or.inl e
    · refine Or.inr ⟨?_, h.2⟩
      have : ¬ x.toInt = -1 := fun q => e (Int32.toInt_inj.mp (by rw [q]; rfl))
      simp only [i_le, t_m1, t_0, t_2] at h ⊢; omega
def T_X5_sheet (g : WG) (as : List Value) (M : MM) (Q : Option Value → MM → Prop) : Prop := ∃ sh srt n, as = [.ref 0, .int sh, .int srt, .int n] ∧ (¬ shA sh srt n = 1 → Q (some (.int (shA sh srt n))) M) ∧ (shA sh srt n = 1 → ∀ i M', sh = nI i → i < 4 → Sm (fun a b => (a = 32 + 2 * i ∧ (b = 1 ∨ b = 2)) ∨ a = 33 + 2 * i) M M' → M' (32 + 2 * i) 1 = srt → M' (32 + 2 * i) 2 = (if srt < 0 then 0 else n) → (∀ j, j < 40 → M' (33 + 2 * i) j = 0) → Q (some (.int 1)) M')
set_option maxRecDepth 100000 in
set_option maxHeartbeats 2000000 in
theorem t_X5_sheet {l : Launch} {g : WG} (hg : Full g) : Ct l g yX5_sheet cX5_sheet 4 ((Option.some FieldType.int)) 3 (T_X5_sheet g) := by
  refine Ct.of (by decide) (fun as M Q h => ?_) (fun p e s m args below meth c as M Q h C => ?_)
  · obtain ⟨sh, srt, n0, rfl, hb, h⟩ := h; exact ⟨by simp, by simp [Value.category]⟩
  · obtain ⟨sh, srt, n0, rfl, hb, h⟩ := h
    refine s_of (fun lv st M0 hs => ?_) (WX5_sheet_0 C (t_X5_isSheet hg) (by decide) (t_X5_isSort hg) (by decide) (t_X2_renew hg) (by decide))
    obtain ⟨rfl, rfl, rfl⟩ := hs
    unfold BX5_sheet_0
    generalize hB4 : BX5_sheet_4 g Q (T_X5_isSheet g) (T_X5_isSort g) (T_X2_renew g) = B4
    simp only [T_X5_isSheet, T_X5_isSort, T_X2_renew, i_const, i_lconst, i_iload, i_aload, i_lload, i_istore, i_astore, i_lstore, i_iinc, i_bin, i_div, i_un, i_i2l, i_l2i, i_lbin, i_lcmp, i_if, i_icmp, i_dup, i_dup_x1, i_dup2, i_pop, i_geti, i_getr, i_getd, i_puti, i_putz, i_putd, i_iald, i_bald, i_aald, i_iast, i_bast, i_alen, i_keep, i_ret, i_retz, i_reta, i_retl, i_retv, i_callv, i_callk, i_calls, i_mm, i_copy, i_under, i_undld, i_ldcs, i_sw, q_swc0, q_swc1, q_lg0, q_lg1, q_lent0, q_lent1, lset, lset2, q_lins0, q_lins1, q_ldel0, q_ldel1, q_ldel20, q_ldel21, q_lkeep0, q_lkeep1, q_memb0, q_memb1, cat2, Nat.reduceBEq, decide_true, decide_false, decide_eq_true_eq, cond_true, cond_false, Bool.and_true, Bool.and_false, Bool.true_and, Bool.false_and, f_iadd, f_isub, f_imul, f_ishl, f_ishr, f_iushr, f_iand, f_ior, f_idiv, f_irem, f_ineg, f_i2b, f_i2s, f_ladd, f_lmul, c_eq, c_ne, c_lt, c_ge, c_gt, c_le, cc_eq, cc_ne, cc_lt, cc_ge, cc_gt, cc_le, rfo, aof, csum, Value.category, List.take, List.drop, List.reverse, List.reverseAux, List.map, List.sum_cons, List.sum_nil, List.cons_append, List.nil_append, Option.toList, List.mem_cons, List.not_mem_nil, List.length_cons, List.length_nil, reduceIte, Nat.reduceEqDiff, Nat.reduceAdd, Nat.reduceLeDiff, Nat.reduceLT, a_day, Nat.zero_ne_one, Nat.one_ne_zero, false_and, and_false, true_and, and_true, or_false, false_or, or_true, true_or, not_true_eq_false, not_false_eq_true, Nat.zero_add, Nat.add_zero, Nat.le_refl, Nat.lt_irrefl, Nat.zero_lt_succ, Nat.zero_le, forall_const, List.cons.injEq, Value.int.injEq, Value.ref.injEq, Value.long.injEq, and_assoc, exists_and_left, exists_eq_left']
    try simp only [forall_eq]
    have bad : ∀ x : Int32, ¬ x = 1 → shA sh srt n0 = x → Q (some (.int x)) M0 := by
      intro x hx e
      rw [e] at hb
      exact hb hx
    subst hB4
    unfold BX5_sheet_4
    generalize hB16 : BX5_sheet_16 g Q (T_X5_isSheet g) (T_X5_isSort g) (T_X2_renew g) = B16
    generalize hB22 : BX5_sheet_22 g Q (T_X5_isSheet g) (T_X5_isSort g) (T_X2_renew g) = B22
    simp only [T_X5_isSheet, T_X5_isSort, T_X2_renew, i_const, i_lconst, i_iload, i_aload, i_lload, i_istore, i_astore, i_lstore, i_iinc, i_bin, i_div, i_un, i_i2l, i_l2i, i_lbin, i_lcmp, i_if, i_icmp, i_dup, i_dup_x1, i_dup2, i_pop, i_geti, i_getr, i_getd, i_puti, i_putz, i_putd, i_iald, i_bald, i_aald, i_iast, i_bast, i_alen, i_keep, i_ret, i_retz, i_reta, i_retl, i_retv, i_callv, i_callk, i_calls, i_mm, i_copy, i_under, i_undld, i_ldcs, i_sw, q_swc0, q_swc1, q_lg0, q_lg1, q_lent0, q_lent1, lset, lset2, q_lins0, q_lins1, q_ldel0, q_ldel1, q_ldel20, q_ldel21, q_lkeep0, q_lkeep1, q_memb0, q_memb1, cat2, Nat.reduceBEq, decide_true, decide_false, decide_eq_true_eq, cond_true, cond_false, Bool.and_true, Bool.and_false, Bool.true_and, Bool.false_and, f_iadd, f_isub, f_imul, f_ishl, f_ishr, f_iushr, f_iand, f_ior, f_idiv, f_irem, f_ineg, f_i2b, f_i2s, f_ladd, f_lmul, c_eq, c_ne, c_lt, c_ge, c_gt, c_le, cc_eq, cc_ne, cc_lt, cc_ge, cc_gt, cc_le, rfo, aof, csum, Value.category, List.take, List.drop, List.reverse, List.reverseAux, List.map, List.sum_cons, List.sum_nil, List.cons_append, List.nil_append, Option.toList, List.mem_cons, List.not_mem_nil, List.length_cons, List.length_nil, reduceIte, Nat.reduceEqDiff, Nat.reduceAdd, Nat.reduceLeDiff, Nat.reduceLT, a_day, Nat.zero_ne_one, Nat.one_ne_zero, false_and, and_false, true_and, and_true, or_false, false_or, or_true, true_or, not_true_eq_false, not_false_eq_true, Nat.zero_add, Nat.add_zero, Nat.le_refl, Nat.lt_irrefl, Nat.zero_lt_succ, Nat.zero_le, forall_const, List.cons.injEq, Value.int.injEq, Value.ref.injEq, Value.long.injEq, and_assoc, exists_and_left, exists_eq_left']
    try simp only [forall_eq]
    refine ⟨fun z1 => bad _ (by decide) (by unfold shA; rw [if_pos (fun q => b2n z1 q.1)]), fun z1 => ?_⟩
    have c1 := b2t z1
    obtain ⟨i, hi, ei⟩ := sh_4 c1
    obtain ⟨s1, s2, s3⟩ := sheet_ok hg hi
    have go48 : shA sh srt n0 = 1 → (srt = -1 ∨ 0 ≤ srt) → BX5_sheet_48 g Q (T_X5_isSheet g) (T_X5_isSort g) (T_X2_renew g) [(0, .ref 0), (1, .int sh), (2, .int srt), (3, .int n0)] [] M0 := by
      intro c hso
      unfold BX5_sheet_48
      simp only [T_X2_renew, i_const, i_lconst, i_iload, i_aload, i_lload, i_istore, i_astore, i_lstore, i_iinc, i_bin, i_div, i_un, i_i2l, i_l2i, i_lbin, i_lcmp, i_if, i_icmp, i_dup, i_dup_x1, i_dup2, i_pop, i_geti, i_getr, i_getd, i_puti, i_putz, i_putd, i_iald, i_bald, i_aald, i_iast, i_bast, i_alen, i_keep, i_ret, i_retz, i_reta, i_retl, i_retv, i_callv, i_callk, i_calls, i_mm, i_copy, i_under, i_undld, i_ldcs, i_sw, q_swc0, q_swc1, q_lg0, q_lg1, q_lent0, q_lent1, lset, lset2, q_lins0, q_lins1, q_ldel0, q_ldel1, q_ldel20, q_ldel21, q_lkeep0, q_lkeep1, q_memb0, q_memb1, cat2, Nat.reduceBEq, decide_true, decide_false, decide_eq_true_eq, cond_true, cond_false, Bool.and_true, Bool.and_false, Bool.true_and, Bool.false_and, f_iadd, f_isub, f_imul, f_ishl, f_ishr, f_iushr, f_iand, f_ior, f_idiv, f_irem, f_ineg, f_i2b, f_i2s, f_ladd, f_lmul, c_eq, c_ne, c_lt, c_ge, c_gt, c_le, cc_eq, cc_ne, cc_lt, cc_ge, cc_gt, cc_le, rfo, aof, csum, Value.category, List.take, List.drop, List.reverse, List.reverseAux, List.map, List.sum_cons, List.sum_nil, List.cons_append, List.nil_append, Option.toList, List.mem_cons, List.not_mem_nil, List.length_cons, List.length_nil, reduceIte, Nat.reduceEqDiff, Nat.reduceAdd, Nat.reduceLeDiff, Nat.reduceLT, a_day, Nat.zero_ne_one, Nat.one_ne_zero, false_and, and_false, true_and, and_true, or_false, false_or, or_true, true_or, not_true_eq_false, not_false_eq_true, Nat.zero_add, Nat.add_zero, Nat.le_refl, Nat.lt_irrefl, Nat.zero_lt_succ, Nat.zero_le, forall_const, List.cons.injEq, Value.int.injEq, Value.ref.injEq, Value.long.injEq, and_assoc, exists_and_left, exists_eq_left', forall_eq]
      rw [ei, nI_clamp (by omega)]
      have e32 : (2 + (30 + 2 * i) : Nat) = 32 + 2 * i := by omega
      simp only [e32]
      refine ⟨c_0 hg, okR hg (by decide) (by decide) rfl, vp_in_nI (n := i) (N := 4) hi (by decide), fun y => ⟨s1.1, s1.2.1, i, rfl, hi, fun M1 hs1 h1 h2 hz => ?_⟩, fun y => ⟨s1.1, s1.2.1, i, rfl, hi, fun M1 hs1 h1 h2 hz => ?_⟩⟩
      · exact h c i M1 ei hi hs1 h1 (by rw [h2, if_neg (i_not_lt.mpr ((mis_lt hso).mp y))]) hz
      · exact h c i M1 ei hi hs1 h1 (by rw [h2, if_pos (by rw [Decidable.not_not.mp y]; decide)]) hz
    have go36 : ((-1 : Int32) ≤ srt ∧ srt ≤ 2) → ¬ (0 ≤ srt ∧ 40 < n0) → BX5_sheet_36 g Q (T_X5_isSheet g) (T_X5_isSort g) (T_X2_renew g) [(0, .ref 0), (1, .int sh), (2, .int srt), (3, .int n0)] [] M0 := by
      intro c2 c3
      have hso : srt = -1 ∨ 0 ≤ srt := (srt_1.mpr c2).elim Or.inl (fun q => Or.inr q.1)
      have hs0 : shA sh srt n0 = if 0 ≤ srt ∧ n0 < 0 then -14 else 1 := by unfold shA; rw [if_neg (fun q => q ⟨c1, c2⟩), if_neg c3]
      unfold BX5_sheet_36
      generalize hB48 : BX5_sheet_48 g Q (T_X5_isSheet g) (T_X5_isSort g) (T_X2_renew g) = B48
      simp only [i_const, i_lconst, i_iload, i_aload, i_lload, i_istore, i_astore, i_lstore, i_iinc, i_bin, i_div, i_un, i_i2l, i_l2i, i_lbin, i_lcmp, i_if, i_icmp, i_dup, i_dup_x1, i_dup2, i_pop, i_geti, i_getr, i_getd, i_puti, i_putz, i_putd, i_iald, i_bald, i_aald, i_iast, i_bast, i_alen, i_keep, i_ret, i_retz, i_reta, i_retl, i_retv, i_callv, i_callk, i_calls, i_mm, i_copy, i_under, i_undld, i_ldcs, i_sw, q_swc0, q_swc1, q_lg0, q_lg1, q_lent0, q_lent1, lset, lset2, q_lins0, q_lins1, q_ldel0, q_ldel1, q_ldel20, q_ldel21, q_lkeep0, q_lkeep1, q_memb0, q_memb1, cat2, Nat.reduceBEq, decide_true, decide_false, decide_eq_true_eq, cond_true, cond_false, Bool.and_true, Bool.and_false, Bool.true_and, Bool.false_and, f_iadd, f_isub, f_imul, f_ishl, f_ishr, f_iushr, f_iand, f_ior, f_idiv, f_irem, f_ineg, f_i2b, f_i2s, f_ladd, f_lmul, c_eq, c_ne, c_lt, c_ge, c_gt, c_le, cc_eq, cc_ne, cc_lt, cc_ge, cc_gt, cc_le, rfo, aof, csum, Value.category, List.take, List.drop, List.reverse, List.reverseAux, List.map, List.sum_cons, List.sum_nil, List.cons_append, List.nil_append, Option.toList, List.mem_cons, List.not_mem_nil, List.length_cons, List.length_nil, reduceIte, Nat.reduceEqDiff, Nat.reduceAdd, Nat.reduceLeDiff, Nat.reduceLT, a_day, Nat.zero_ne_one, Nat.one_ne_zero, false_and, and_false, true_and, and_true, or_false, false_or, or_true, true_or, not_true_eq_false, not_false_eq_true, Nat.zero_add, Nat.add_zero, Nat.le_refl, Nat.lt_irrefl, Nat.zero_lt_succ, Nat.zero_le, forall_const, List.cons.injEq, Value.int.injEq, Value.ref.injEq, Value.long.injEq, and_assoc, exists_and_left, exists_eq_left', forall_eq]
      refine ⟨fun y => ?_, fun y => ⟨fun u => ?_, fun u => bad _ (by decide) ?_⟩⟩
      · subst hB48; exact go48 (by rw [hs0, if_neg (fun q => by rw [y] at q; exact absurd q.1 (by decide))]) hso
      · subst hB48; exact go48 (by rw [hs0, if_neg (fun q => i_not_lt.mpr u q.2)]) hso
      · rw [hs0, if_pos ⟨(mis_lt hso).mp y, i_not_le.mp u⟩]
    have go22 : ((-1 : Int32) ≤ srt ∧ srt ≤ 2) → BX5_sheet_22 g Q (T_X5_isSheet g) (T_X5_isSort g) (T_X2_renew g) [(0, .ref 0), (1, .int sh), (2, .int srt), (3, .int n0)] [] M0 := by
      intro c2
      have hso : srt = -1 ∨ 0 ≤ srt := (srt_1.mpr c2).elim Or.inl (fun q => Or.inr q.1)
      unfold BX5_sheet_22
      generalize hB36 : BX5_sheet_36 g Q (T_X5_isSheet g) (T_X5_isSort g) (T_X2_renew g) = B36
      simp only [i_const, i_lconst, i_iload, i_aload, i_lload, i_istore, i_astore, i_lstore, i_iinc, i_bin, i_div, i_un, i_i2l, i_l2i, i_lbin, i_lcmp, i_if, i_icmp, i_dup, i_dup_x1, i_dup2, i_pop, i_geti, i_getr, i_getd, i_puti, i_putz, i_putd, i_iald, i_bald, i_aald, i_iast, i_bast, i_alen, i_keep, i_ret, i_retz, i_reta, i_retl, i_retv, i_callv, i_callk, i_calls, i_mm, i_copy, i_under, i_undld, i_ldcs, i_sw, q_swc0, q_swc1, q_lg0, q_lg1, q_lent0, q_lent1, lset, lset2, q_lins0, q_lins1, q_ldel0, q_ldel1, q_ldel20, q_ldel21, q_lkeep0, q_lkeep1, q_memb0, q_memb1, cat2, Nat.reduceBEq, decide_true, decide_false, decide_eq_true_eq, cond_true, cond_false, Bool.and_true, Bool.and_false, Bool.true_and, Bool.false_and, f_iadd, f_isub, f_imul, f_ishl, f_ishr, f_iushr, f_iand, f_ior, f_idiv, f_irem, f_ineg, f_i2b, f_i2s, f_ladd, f_lmul, c_eq, c_ne, c_lt, c_ge, c_gt, c_le, cc_eq, cc_ne, cc_lt, cc_ge, cc_gt, cc_le, rfo, aof, csum, Value.category, List.take, List.drop, List.reverse, List.reverseAux, List.map, List.sum_cons, List.sum_nil, List.cons_append, List.nil_append, Option.toList, List.mem_cons, List.not_mem_nil, List.length_cons, List.length_nil, reduceIte, Nat.reduceEqDiff, Nat.reduceAdd, Nat.reduceLeDiff, Nat.reduceLT, a_day, Nat.zero_ne_one, Nat.one_ne_zero, false_and, and_false, true_and, and_true, or_false, false_or, or_true, true_or, not_true_eq_false, not_false_eq_true, Nat.zero_add, Nat.add_zero, Nat.le_refl, Nat.lt_irrefl, Nat.zero_lt_succ, Nat.zero_le, forall_const, List.cons.injEq, Value.int.injEq, Value.ref.injEq, Value.long.injEq, and_assoc, exists_and_left, exists_eq_left', forall_eq]
      refine ⟨fun y => ?_, fun y => ⟨fun u => ?_, fun u => bad _ (by decide) ?_⟩⟩
      · subst hB36; exact go36 c2 (fun q => by rw [y] at q; exact absurd q.1 (by decide))
      · subst hB36; exact go36 c2 (fun q => i_not_lt.mpr u q.2)
      · unfold shA
        rw [if_neg (fun q => q ⟨c1, c2⟩), if_neg (fun q => ?_), if_pos ⟨(mis_lt hso).mp y, i_not_le.mp u⟩]
        have a := q.2
        have b := i_not_le.mp u
        rw [i_lt] at a b
        have e40 : (40 : Int32).toInt = 40 := rfl
        rw [t_0] at a
        rw [e40] at b
        omega
    refine ⟨fun y => ?_, fun y => ?_⟩
    · subst_vars; exact go22 (by decide)
    · subst hB16
      unfold BX5_sheet_16
      generalize hB22 : BX5_sheet_22 g Q (T_X5_isSheet g) (T_X5_isSort g) (T_X2_renew g) = B22
      simp only [T_X5_isSheet, T_X5_isSort, T_X2_renew, i_const, i_lconst, i_iload, i_aload, i_lload, i_istore, i_astore, i_lstore, i_iinc, i_bin, i_div, i_un, i_i2l, i_l2i, i_lbin, i_lcmp, i_if, i_icmp, i_dup, i_dup_x1, i_dup2, i_pop, i_geti, i_getr, i_getd, i_puti, i_putz, i_putd, i_iald, i_bald, i_aald, i_iast, i_bast, i_alen, i_keep, i_ret, i_retz, i_reta, i_retl, i_retv, i_callv, i_callk, i_calls, i_mm, i_copy, i_under, i_undld, i_ldcs, i_sw, q_swc0, q_swc1, q_lg0, q_lg1, q_lent0, q_lent1, lset, lset2, q_lins0, q_lins1, q_ldel0, q_ldel1, q_ldel20, q_ldel21, q_lkeep0, q_lkeep1, q_memb0, q_memb1, cat2, Nat.reduceBEq, decide_true, decide_false, decide_eq_true_eq, cond_true, cond_false, Bool.and_true, Bool.and_false, Bool.true_and, Bool.false_and, f_iadd, f_isub, f_imul, f_ishl, f_ishr, f_iushr, f_iand, f_ior, f_idiv, f_irem, f_ineg, f_i2b, f_i2s, f_ladd, f_lmul, c_eq, c_ne, c_lt, c_ge, c_gt, c_le, cc_eq, cc_ne, cc_lt, cc_ge, cc_gt, cc_le, rfo, aof, csum, Value.category, List.take, List.drop, List.reverse, List.reverseAux, List.map, List.sum_cons, List.sum_nil, List.cons_append, List.nil_append, Option.toList, List.mem_cons, List.not_mem_nil, List.length_cons, List.length_nil, reduceIte, Nat.reduceEqDiff, Nat.reduceAdd, Nat.reduceLeDiff, Nat.reduceLT, a_day, Nat.zero_ne_one, Nat.one_ne_zero, false_and, and_false, true_and, and_true, or_false, false_or, or_true, true_or, not_true_eq_false, not_false_eq_true, Nat.zero_add, Nat.add_zero, Nat.le_refl, Nat.lt_irrefl, Nat.zero_lt_succ, Nat.zero_le, forall_const, List.cons.injEq, Value.int.injEq, Value.ref.injEq, Value.long.injEq, and_assoc, exists_and_left, exists_eq_left']
      try simp only [forall_eq]
      refine ⟨fun z2 => ?_, fun z2 => bad _ (by decide) ?_⟩
      · subst hB22; exact go22 (srt_1.mp (Or.inr (b2t z2)))
      · unfold shA
        rw [if_pos]
        intro q
        rcases srt_1.mpr q.2 with r | r
        · exact y r
        · exact b2n (Decidable.not_not.mp z2) r
def T_X5_cell (g : WG) (as : List Value) (M : MM) (Q : Option Value → MM → Prop) : Prop := ∃ sh i v, as = [.ref 0, .int sh, .int i, .int v] ∧ (∀ a, a < 4 → ∃ n, n ≤ 40 ∧ M (32 + 2 * a) 2 = nI n) ∧ (∀ a, a < 4 → M (32 + 2 * a) 1 = -1 ∨ 0 ≤ M (32 + 2 * a) 1) ∧ (¬ celA (fun a => M (32 + 2 * a) 1) (fun a => M (32 + 2 * a) 2) sh i = 1 → Q (some (.int (celA (fun a => M (32 + 2 * a) 1) (fun a => M (32 + 2 * a) 2) sh i))) M) ∧ (∀ a k n, sh = nI a → a < 4 → i = nI k → M (32 + 2 * a) 2 = nI n → k < n → n ≤ 40 → ¬ M (32 + 2 * a) 1 < 0 → Q (some (.int 1)) (mset M (33 + 2 * a) k (cnv (M (32 + 2 * a) 1) v)))
set_option maxRecDepth 100000 in
set_option maxHeartbeats 2000000 in
theorem t_X5_cell {l : Launch} {g : WG} (hg : Full g) : Ct l g yX5_cell cX5_cell 5 ((Option.some FieldType.int)) 2 (T_X5_cell g) := by
  refine Ct.of (by decide) (fun as M Q h => ?_) (fun p e s m args below meth c as M Q h C => ?_)
  · obtain ⟨sh, i, v, rfl, hsz, hso, hb, h⟩ := h; exact ⟨by simp, by simp [Value.category]⟩
  · obtain ⟨sh, i, v, rfl, hsz, hso, hb, h⟩ := h
    refine s_of (fun lv st M0 hs => ?_) (WX5_cell_0 C (t_X5_isSheet hg) (by decide) (t_X2_hasFrom hg) (by decide) (t_X2_put hg) (by decide))
    obtain ⟨rfl, rfl, rfl⟩ := hs
    unfold BX5_cell_0
    generalize hB4 : BX5_cell_4 g Q (T_X5_isSheet g) (T_X2_hasFrom g) (T_X2_put g) = B4
    simp only [T_X5_isSheet, T_X2_hasFrom, T_X2_put, i_const, i_lconst, i_iload, i_aload, i_lload, i_istore, i_astore, i_lstore, i_iinc, i_bin, i_div, i_un, i_i2l, i_l2i, i_lbin, i_lcmp, i_if, i_icmp, i_dup, i_dup_x1, i_dup2, i_pop, i_geti, i_getr, i_getd, i_puti, i_putz, i_putd, i_iald, i_bald, i_aald, i_iast, i_bast, i_alen, i_keep, i_ret, i_retz, i_reta, i_retl, i_retv, i_callv, i_callk, i_calls, i_mm, i_copy, i_under, i_undld, i_ldcs, i_sw, q_swc0, q_swc1, q_lg0, q_lg1, q_lent0, q_lent1, lset, lset2, q_lins0, q_lins1, q_ldel0, q_ldel1, q_ldel20, q_ldel21, q_lkeep0, q_lkeep1, q_memb0, q_memb1, cat2, Nat.reduceBEq, decide_true, decide_false, decide_eq_true_eq, cond_true, cond_false, Bool.and_true, Bool.and_false, Bool.true_and, Bool.false_and, f_iadd, f_isub, f_imul, f_ishl, f_ishr, f_iushr, f_iand, f_ior, f_idiv, f_irem, f_ineg, f_i2b, f_i2s, f_ladd, f_lmul, c_eq, c_ne, c_lt, c_ge, c_gt, c_le, cc_eq, cc_ne, cc_lt, cc_ge, cc_gt, cc_le, rfo, aof, csum, Value.category, List.take, List.drop, List.reverse, List.reverseAux, List.map, List.sum_cons, List.sum_nil, List.cons_append, List.nil_append, Option.toList, List.mem_cons, List.not_mem_nil, List.length_cons, List.length_nil, reduceIte, Nat.reduceEqDiff, Nat.reduceAdd, Nat.reduceLeDiff, Nat.reduceLT, a_day, Nat.zero_ne_one, Nat.one_ne_zero, false_and, and_false, true_and, and_true, or_false, false_or, or_true, true_or, not_true_eq_false, not_false_eq_true, Nat.zero_add, Nat.add_zero, Nat.le_refl, Nat.lt_irrefl, Nat.zero_lt_succ, Nat.zero_le, forall_const, List.cons.injEq, Value.int.injEq, Value.ref.injEq, Value.long.injEq, and_assoc, exists_and_left, exists_eq_left']
    try simp only [forall_eq]
    have bad : ∀ x : Int32, ¬ x = 1 → celA (fun a => M0 (32 + 2 * a) 1) (fun a => M0 (32 + 2 * a) 2) sh i = x → Q (some (.int x)) M0 := by
      intro x hx e
      rw [e] at hb
      exact hb hx
    subst hB4
    unfold BX5_cell_4
    generalize hB37 : BX5_cell_37 g Q (T_X5_isSheet g) (T_X2_hasFrom g) (T_X2_put g) = B37
    simp only [T_X5_isSheet, T_X2_hasFrom, T_X2_put, i_const, i_lconst, i_iload, i_aload, i_lload, i_istore, i_astore, i_lstore, i_iinc, i_bin, i_div, i_un, i_i2l, i_l2i, i_lbin, i_lcmp, i_if, i_icmp, i_dup, i_dup_x1, i_dup2, i_pop, i_geti, i_getr, i_getd, i_puti, i_putz, i_putd, i_iald, i_bald, i_aald, i_iast, i_bast, i_alen, i_keep, i_ret, i_retz, i_reta, i_retl, i_retv, i_callv, i_callk, i_calls, i_mm, i_copy, i_under, i_undld, i_ldcs, i_sw, q_swc0, q_swc1, q_lg0, q_lg1, q_lent0, q_lent1, lset, lset2, q_lins0, q_lins1, q_ldel0, q_ldel1, q_ldel20, q_ldel21, q_lkeep0, q_lkeep1, q_memb0, q_memb1, cat2, Nat.reduceBEq, decide_true, decide_false, decide_eq_true_eq, cond_true, cond_false, Bool.and_true, Bool.and_false, Bool.true_and, Bool.false_and, f_iadd, f_isub, f_imul, f_ishl, f_ishr, f_iushr, f_iand, f_ior, f_idiv, f_irem, f_ineg, f_i2b, f_i2s, f_ladd, f_lmul, c_eq, c_ne, c_lt, c_ge, c_gt, c_le, cc_eq, cc_ne, cc_lt, cc_ge, cc_gt, cc_le, rfo, aof, csum, Value.category, List.take, List.drop, List.reverse, List.reverseAux, List.map, List.sum_cons, List.sum_nil, List.cons_append, List.nil_append, Option.toList, List.mem_cons, List.not_mem_nil, List.length_cons, List.length_nil, reduceIte, Nat.reduceEqDiff, Nat.reduceAdd, Nat.reduceLeDiff, Nat.reduceLT, a_day, Nat.zero_ne_one, Nat.one_ne_zero, false_and, and_false, true_and, and_true, or_false, false_or, or_true, true_or, not_true_eq_false, not_false_eq_true, Nat.zero_add, Nat.add_zero, Nat.le_refl, Nat.lt_irrefl, Nat.zero_lt_succ, Nat.zero_le, forall_const, List.cons.injEq, Value.int.injEq, Value.ref.injEq, Value.long.injEq, and_assoc, exists_and_left, exists_eq_left']
    try simp only [forall_eq]
    refine ⟨fun z1 => ?_, fun z1 => bad _ (by decide) (by unfold celA; rw [if_pos (b2n (Decidable.not_not.mp z1))])⟩
    have c1 := b2t z1
    obtain ⟨a, ha, ea⟩ := sh_4 c1
    obtain ⟨n, hn, en⟩ := hsz a ha
    obtain ⟨s1, s2, s3⟩ := sheet_ok hg ha
    have hc : celA (fun a => M0 (32 + 2 * a) 1) (fun a => M0 (32 + 2 * a) 2) sh i = if M0 (32 + 2 * a) 1 < 0 then -11 else if ¬ (0 ≤ i ∧ i < nI n) then -12 else 1 := by
      unfold celA; rw [if_neg (fun q => q c1), ea, nI_clamp (by omega)]
      simp only [en]
    rw [ea, nI_clamp (by omega)]
    have e32 : (2 + (30 + 2 * a) : Nat) = 32 + 2 * a := by omega
    simp only [e32]
    refine ⟨c_0 hg, okR hg (by decide) (by decide) rfl, vp_in_nI (n := a) (N := 4) ha (by decide), s1, fun y => ⟨s1.1, s1.2.1, a, rfl, ha, n, en, hn, ?_⟩, fun y => bad _ (by decide) (by rw [hc, if_pos (by rw [Decidable.not_not.mp y]; decide)])⟩
    have y0 := (mis_lt (hso a ha)).mp y
    rw [if_neg (i_not_lt.mpr y0)] at hc
    subst hB37
    unfold BX5_cell_37
    simp only [T_X5_isSheet, T_X2_hasFrom, T_X2_put, i_const, i_lconst, i_iload, i_aload, i_lload, i_istore, i_astore, i_lstore, i_iinc, i_bin, i_div, i_un, i_i2l, i_l2i, i_lbin, i_lcmp, i_if, i_icmp, i_dup, i_dup_x1, i_dup2, i_pop, i_geti, i_getr, i_getd, i_puti, i_putz, i_putd, i_iald, i_bald, i_aald, i_iast, i_bast, i_alen, i_keep, i_ret, i_retz, i_reta, i_retl, i_retv, i_callv, i_callk, i_calls, i_mm, i_copy, i_under, i_undld, i_ldcs, i_sw, q_swc0, q_swc1, q_lg0, q_lg1, q_lent0, q_lent1, lset, lset2, q_lins0, q_lins1, q_ldel0, q_ldel1, q_ldel20, q_ldel21, q_lkeep0, q_lkeep1, q_memb0, q_memb1, cat2, Nat.reduceBEq, decide_true, decide_false, decide_eq_true_eq, cond_true, cond_false, Bool.and_true, Bool.and_false, Bool.true_and, Bool.false_and, f_iadd, f_isub, f_imul, f_ishl, f_ishr, f_iushr, f_iand, f_ior, f_idiv, f_irem, f_ineg, f_i2b, f_i2s, f_ladd, f_lmul, c_eq, c_ne, c_lt, c_ge, c_gt, c_le, cc_eq, cc_ne, cc_lt, cc_ge, cc_gt, cc_le, rfo, aof, csum, Value.category, List.take, List.drop, List.reverse, List.reverseAux, List.map, List.sum_cons, List.sum_nil, List.cons_append, List.nil_append, Option.toList, List.mem_cons, List.not_mem_nil, List.length_cons, List.length_nil, reduceIte, Nat.reduceEqDiff, Nat.reduceAdd, Nat.reduceLeDiff, Nat.reduceLT, a_day, Nat.zero_ne_one, Nat.one_ne_zero, false_and, and_false, true_and, and_true, or_false, false_or, or_true, true_or, not_true_eq_false, not_false_eq_true, Nat.zero_add, Nat.add_zero, Nat.le_refl, Nat.lt_irrefl, Nat.zero_lt_succ, Nat.zero_le, forall_const, List.cons.injEq, Value.int.injEq, Value.ref.injEq, Value.long.injEq, and_assoc, exists_and_left, exists_eq_left']
    try simp only [forall_eq]
    refine ⟨fun z2 => ?_, fun z2 => bad _ (by decide) ?_⟩
    · obtain ⟨q1, -, q3⟩ := b2t z2
      obtain ⟨k, hk31, ek⟩ := nI_of (i_not_lt.mpr q1)
      have e1 : (1 : Int32).toNatClampNeg = 1 := rfl
      rw [ek, nI_clamp hk31, e1] at q3
      rw [ek]
      exact ⟨s1.1, s1.2.1, a, rfl, k, rfl, ha, by omega, h a k n ea ha ek en (by omega) hn (i_not_lt.mpr y0)⟩
    · rw [hc, if_pos]
      intro q
      obtain ⟨k, hk31, ek⟩ := nI_of (i_not_lt.mpr q.1)
      have e1 : (1 : Int32).toNatClampNeg = 1 := rfl
      rw [ek] at q
      have := (nI_ltI hk31 (by omega)).mp q.2
      exact b2n (Decidable.not_not.mp z2) ⟨by rw [ek]; exact nI_pos' hk31, by decide, by rw [ek, nI_clamp hk31, e1]; omega⟩
def T_X5_copy (g : WG) (as : List Value) (M : MM) (Q : Option Value → MM → Prop) : Prop := ∃ sh i ot j n, as = [.ref 0, .int sh, .int i, .int ot, .int j, .int n] ∧ (∀ a, a < 4 → ∃ n, n ≤ 40 ∧ M (32 + 2 * a) 2 = nI n) ∧ (∀ a, a < 4 → M (32 + 2 * a) 1 = -1 ∨ 0 ≤ M (32 + 2 * a) 1) ∧ (copA (fun a => M (32 + 2 * a) 1) (fun a => M (32 + 2 * a) 2) sh i ot j n < 0 → Q (some (.int (copA (fun a => M (32 + 2 * a) 1) (fun a => M (32 + 2 * a) 2) sh i ot j n))) M) ∧ (¬ copA (fun a => M (32 + 2 * a) 1) (fun a => M (32 + 2 * a) 2) sh i ot j n < 0 → ∀ a b i' j' n' M', sh = nI a → ot = nI b → a < 4 → b < 4 → i = nI i' → j = nI j' → n = nI n' → i' + n' ≤ 40 → j' + n' ≤ 40 → Sm (fun x y => x = 33 + 2 * b ∧ j' ≤ y ∧ y < j' + n') M M' → (∀ k, k < n' → M' (33 + 2 * b) (j' + k) = M (33 + 2 * a) (i' + k)) → Q (some (.int (nI n'))) M')
set_option maxRecDepth 100000 in
set_option maxHeartbeats 2000000 in
theorem t_X5_copy {l : Launch} {g : WG} (hg : Full g) : Ct l g yX5_copy cX5_copy 8 ((Option.some FieldType.int)) 2 (T_X5_copy g) := by
  refine Ct.of (by decide) (fun as M Q h => ?_) (fun p e s m args below meth c as M Q h C => ?_)
  · obtain ⟨sh, i, ot, j, n0, rfl, hsz, hso, hb, h⟩ := h; exact ⟨by simp, by simp [Value.category]⟩
  · obtain ⟨sh, i, ot, j, n0, rfl, hsz, hso, hb, h⟩ := h
    refine s_of (fun lv st M0 hs => ?_) (WX5_copy_0 C (by decide) (t_X5_isSheet hg) (by decide) (t_X2_hasFrom hg) (by decide))
    obtain ⟨rfl, rfl, rfl⟩ := hs
    unfold BX5_copy_0
    generalize hB4 : BX5_copy_4 g Q (T_X5_isSheet g) (T_X2_hasFrom g) = B4
    simp only [T_X5_isSheet, T_X2_hasFrom, i_const, i_lconst, i_iload, i_aload, i_lload, i_istore, i_astore, i_lstore, i_iinc, i_bin, i_div, i_un, i_i2l, i_l2i, i_lbin, i_lcmp, i_if, i_icmp, i_dup, i_dup_x1, i_dup2, i_pop, i_geti, i_getr, i_getd, i_puti, i_putz, i_putd, i_iald, i_bald, i_aald, i_iast, i_bast, i_alen, i_keep, i_ret, i_retz, i_reta, i_retl, i_retv, i_callv, i_callk, i_calls, i_mm, i_copy, i_under, i_undld, i_ldcs, i_sw, q_swc0, q_swc1, q_lg0, q_lg1, q_lent0, q_lent1, lset, lset2, q_lins0, q_lins1, q_ldel0, q_ldel1, q_ldel20, q_ldel21, q_lkeep0, q_lkeep1, q_memb0, q_memb1, cat2, Nat.reduceBEq, decide_true, decide_false, decide_eq_true_eq, cond_true, cond_false, Bool.and_true, Bool.and_false, Bool.true_and, Bool.false_and, f_iadd, f_isub, f_imul, f_ishl, f_ishr, f_iushr, f_iand, f_ior, f_idiv, f_irem, f_ineg, f_i2b, f_i2s, f_ladd, f_lmul, c_eq, c_ne, c_lt, c_ge, c_gt, c_le, cc_eq, cc_ne, cc_lt, cc_ge, cc_gt, cc_le, rfo, aof, csum, Value.category, List.take, List.drop, List.reverse, List.reverseAux, List.map, List.sum_cons, List.sum_nil, List.cons_append, List.nil_append, Option.toList, List.mem_cons, List.not_mem_nil, List.length_cons, List.length_nil, reduceIte, Nat.reduceEqDiff, Nat.reduceAdd, Nat.reduceLeDiff, Nat.reduceLT, a_day, Nat.zero_ne_one, Nat.one_ne_zero, false_and, and_false, true_and, and_true, or_false, false_or, or_true, true_or, not_true_eq_false, not_false_eq_true, Nat.zero_add, Nat.add_zero, Nat.le_refl, Nat.lt_irrefl, Nat.zero_lt_succ, Nat.zero_le, forall_const, List.cons.injEq, Value.int.injEq, Value.ref.injEq, Value.long.injEq, and_assoc, exists_and_left, exists_eq_left']
    try simp only [forall_eq]
    obtain ⟨srt, hsrt⟩ : ∃ srt, (fun a => M0 (32 + 2 * a) 1) = srt := ⟨_, rfl⟩
    obtain ⟨siz, hsiz⟩ : ∃ siz, (fun a => M0 (32 + 2 * a) 2) = siz := ⟨_, rfl⟩
    rw [hsrt, hsiz] at hb h
    have bad : ∀ x : Int32, x < 0 → copA srt siz sh i ot j n0 = x → Q (some (.int x)) M0 := by
      intro x hx e
      rw [e] at hb
      exact hb hx
    subst hB4
    unfold BX5_copy_4
    generalize hB11 : BX5_copy_11 g Q (T_X5_isSheet g) (T_X2_hasFrom g) = B11
    simp only [T_X5_isSheet, T_X2_hasFrom, i_const, i_lconst, i_iload, i_aload, i_lload, i_istore, i_astore, i_lstore, i_iinc, i_bin, i_div, i_un, i_i2l, i_l2i, i_lbin, i_lcmp, i_if, i_icmp, i_dup, i_dup_x1, i_dup2, i_pop, i_geti, i_getr, i_getd, i_puti, i_putz, i_putd, i_iald, i_bald, i_aald, i_iast, i_bast, i_alen, i_keep, i_ret, i_retz, i_reta, i_retl, i_retv, i_callv, i_callk, i_calls, i_mm, i_copy, i_under, i_undld, i_ldcs, i_sw, q_swc0, q_swc1, q_lg0, q_lg1, q_lent0, q_lent1, lset, lset2, q_lins0, q_lins1, q_ldel0, q_ldel1, q_ldel20, q_ldel21, q_lkeep0, q_lkeep1, q_memb0, q_memb1, cat2, Nat.reduceBEq, decide_true, decide_false, decide_eq_true_eq, cond_true, cond_false, Bool.and_true, Bool.and_false, Bool.true_and, Bool.false_and, f_iadd, f_isub, f_imul, f_ishl, f_ishr, f_iushr, f_iand, f_ior, f_idiv, f_irem, f_ineg, f_i2b, f_i2s, f_ladd, f_lmul, c_eq, c_ne, c_lt, c_ge, c_gt, c_le, cc_eq, cc_ne, cc_lt, cc_ge, cc_gt, cc_le, rfo, aof, csum, Value.category, List.take, List.drop, List.reverse, List.reverseAux, List.map, List.sum_cons, List.sum_nil, List.cons_append, List.nil_append, Option.toList, List.mem_cons, List.not_mem_nil, List.length_cons, List.length_nil, reduceIte, Nat.reduceEqDiff, Nat.reduceAdd, Nat.reduceLeDiff, Nat.reduceLT, a_day, Nat.zero_ne_one, Nat.one_ne_zero, false_and, and_false, true_and, and_true, or_false, false_or, or_true, true_or, not_true_eq_false, not_false_eq_true, Nat.zero_add, Nat.add_zero, Nat.le_refl, Nat.lt_irrefl, Nat.zero_lt_succ, Nat.zero_le, forall_const, List.cons.injEq, Value.int.injEq, Value.ref.injEq, Value.long.injEq, and_assoc, exists_and_left, exists_eq_left']
    try simp only [forall_eq]
    refine ⟨fun z1 => bad _ (by decide) (by unfold copA; rw [if_pos (fun q => b2n z1 q.1)]), fun z1 => ?_⟩
    subst hB11
    unfold BX5_copy_11
    generalize hB78 : BX5_copy_78 g Q (T_X5_isSheet g) (T_X2_hasFrom g) = B78
    simp only [T_X5_isSheet, T_X2_hasFrom, i_const, i_lconst, i_iload, i_aload, i_lload, i_istore, i_astore, i_lstore, i_iinc, i_bin, i_div, i_un, i_i2l, i_l2i, i_lbin, i_lcmp, i_if, i_icmp, i_dup, i_dup_x1, i_dup2, i_pop, i_geti, i_getr, i_getd, i_puti, i_putz, i_putd, i_iald, i_bald, i_aald, i_iast, i_bast, i_alen, i_keep, i_ret, i_retz, i_reta, i_retl, i_retv, i_callv, i_callk, i_calls, i_mm, i_copy, i_under, i_undld, i_ldcs, i_sw, q_swc0, q_swc1, q_lg0, q_lg1, q_lent0, q_lent1, lset, lset2, q_lins0, q_lins1, q_ldel0, q_ldel1, q_ldel20, q_ldel21, q_lkeep0, q_lkeep1, q_memb0, q_memb1, cat2, Nat.reduceBEq, decide_true, decide_false, decide_eq_true_eq, cond_true, cond_false, Bool.and_true, Bool.and_false, Bool.true_and, Bool.false_and, f_iadd, f_isub, f_imul, f_ishl, f_ishr, f_iushr, f_iand, f_ior, f_idiv, f_irem, f_ineg, f_i2b, f_i2s, f_ladd, f_lmul, c_eq, c_ne, c_lt, c_ge, c_gt, c_le, cc_eq, cc_ne, cc_lt, cc_ge, cc_gt, cc_le, rfo, aof, csum, Value.category, List.take, List.drop, List.reverse, List.reverseAux, List.map, List.sum_cons, List.sum_nil, List.cons_append, List.nil_append, Option.toList, List.mem_cons, List.not_mem_nil, List.length_cons, List.length_nil, reduceIte, Nat.reduceEqDiff, Nat.reduceAdd, Nat.reduceLeDiff, Nat.reduceLT, a_day, Nat.zero_ne_one, Nat.one_ne_zero, false_and, and_false, true_and, and_true, or_false, false_or, or_true, true_or, not_true_eq_false, not_false_eq_true, Nat.zero_add, Nat.add_zero, Nat.le_refl, Nat.lt_irrefl, Nat.zero_lt_succ, Nat.zero_le, forall_const, List.cons.injEq, Value.int.injEq, Value.ref.injEq, Value.long.injEq, and_assoc, exists_and_left, exists_eq_left']
    try simp only [forall_eq]
    refine ⟨fun z2 => ?_, fun z2 => bad _ (by decide) (by unfold copA; rw [if_pos (fun q => b2n (Decidable.not_not.mp z2) q.2)])⟩
    have c1 := b2t z1
    have c2 := b2t z2
    obtain ⟨a, ha, ea⟩ := sh_4 c1
    obtain ⟨b, hb4, eb⟩ := sh_4 c2
    obtain ⟨sa, hsa, esa⟩ := hsz a ha
    obtain ⟨sb, hsb, esb⟩ := hsz b hb4
    obtain ⟨a1, a2, a3⟩ := sheet_ok hg ha
    obtain ⟨b1, b2, b3⟩ := sheet_ok hg hb4
    have xa : M0 (32 + 2 * a) 1 = srt a := by rw [← hsrt]
    have xb : M0 (32 + 2 * b) 1 = srt b := by rw [← hsrt]
    have ma := mis_lt (hso a ha)
    have mb' := mis_lt (hso b hb4)
    rw [xa] at ma
    rw [xb] at mb'
    have hc : copA srt siz sh i ot j n0 = if srt a < 0 ∨ srt b < 0 then -11 else if ¬ srt a = srt b then -13 else if n0 < 0 ∨ i < 0 ∨ j < 0 ∨ sa < i.toNatClampNeg + n0.toNatClampNeg ∨ sb < j.toNatClampNeg + n0.toNatClampNeg then -12 else n0 := by
      have ya : siz a = nI sa := by rw [← hsiz]; exact esa
      have yb : siz b = nI sb := by rw [← hsiz]; exact esb
      unfold copA; rw [if_neg (fun q => q ⟨c1, c2⟩), ea, eb, nI_clamp (show a < 2 ^ 31 by omega), nI_clamp (show b < 2 ^ 31 by omega), ya, yb, nI_clamp (show sa < 2 ^ 31 by omega), nI_clamp (show sb < 2 ^ 31 by omega)]
    rw [ea, eb, nI_clamp (show a < 2 ^ 31 by omega), nI_clamp (show b < 2 ^ 31 by omega)]
    have e32 : ∀ x, (2 + (30 + 2 * x) : Nat) = 32 + 2 * x := by intro x; omega
    simp only [e32]
    rw [xa, xb]
    have o2 : okq g 10 2 := okR hg (by decide) (by decide) rfl
    have va : vp_in (nI a) (ln 2) := vp_in_nI (n := a) (N := 4) ha (by decide)
    have vb : vp_in (nI b) (ln 2) := vp_in_nI (n := b) (N := 4) hb4 (by decide)
    refine ⟨c_0 hg, o2, va, c_0 hg, o2, vb, a1, fun y1 => bad _ (by decide) (by rw [hc, if_pos (Or.inl (by rw [y1]; decide))]), fun y1 => ⟨b1, fun y2 => ⟨a1, b1, fun y3 => ⟨a1.1, a1.2.1, a, rfl, ha, sa, esa, hsa, ?_⟩, fun y3 => bad _ (by decide) ?_⟩, fun y2 => bad _ (by decide) (by rw [hc, if_pos (Or.inr (by rw [Decidable.not_not.mp y2]; decide))])⟩⟩
    · have na := i_not_lt.mpr (ma.mp y1)
      have nb := i_not_lt.mpr (mb'.mp y2)
      rw [if_neg (fun q => q.elim na nb), if_neg (fun q => q y3)] at hc
      have out : (n0 < 0 ∨ i < 0 ∨ j < 0 ∨ sa < i.toNatClampNeg + n0.toNatClampNeg ∨ sb < j.toNatClampNeg + n0.toNatClampNeg) → Q (some (.int (-12))) M0 := fun q => bad _ (by decide) (by rw [hc, if_pos q])
      subst hB78
      unfold BX5_copy_78
      generalize hB90 : BX5_copy_90 g Q (T_X5_isSheet g) (T_X2_hasFrom g) = B90
      simp only [T_X5_isSheet, T_X2_hasFrom, i_const, i_lconst, i_iload, i_aload, i_lload, i_istore, i_astore, i_lstore, i_iinc, i_bin, i_div, i_un, i_i2l, i_l2i, i_lbin, i_lcmp, i_if, i_icmp, i_dup, i_dup_x1, i_dup2, i_pop, i_geti, i_getr, i_getd, i_puti, i_putz, i_putd, i_iald, i_bald, i_aald, i_iast, i_bast, i_alen, i_keep, i_ret, i_retz, i_reta, i_retl, i_retv, i_callv, i_callk, i_calls, i_mm, i_copy, i_under, i_undld, i_ldcs, i_sw, q_swc0, q_swc1, q_lg0, q_lg1, q_lent0, q_lent1, lset, lset2, q_lins0, q_lins1, q_ldel0, q_ldel1, q_ldel20, q_ldel21, q_lkeep0, q_lkeep1, q_memb0, q_memb1, cat2, Nat.reduceBEq, decide_true, decide_false, decide_eq_true_eq, cond_true, cond_false, Bool.and_true, Bool.and_false, Bool.true_and, Bool.false_and, f_iadd, f_isub, f_imul, f_ishl, f_ishr, f_iushr, f_iand, f_ior, f_idiv, f_irem, f_ineg, f_i2b, f_i2s, f_ladd, f_lmul, c_eq, c_ne, c_lt, c_ge, c_gt, c_le, cc_eq, cc_ne, cc_lt, cc_ge, cc_gt, cc_le, rfo, aof, csum, Value.category, List.take, List.drop, List.reverse, List.reverseAux, List.map, List.sum_cons, List.sum_nil, List.cons_append, List.nil_append, Option.toList, List.mem_cons, List.not_mem_nil, List.length_cons, List.length_nil, reduceIte, Nat.reduceEqDiff, Nat.reduceAdd, Nat.reduceLeDiff, Nat.reduceLT, a_day, Nat.zero_ne_one, Nat.one_ne_zero, false_and, and_false, true_and, and_true, or_false, false_or, or_true, true_or, not_true_eq_false, not_false_eq_true, Nat.zero_add, Nat.add_zero, Nat.le_refl, Nat.lt_irrefl, Nat.zero_lt_succ, Nat.zero_le, forall_const, List.cons.injEq, Value.int.injEq, Value.ref.injEq, Value.long.injEq, and_assoc, exists_and_left, exists_eq_left']
      try simp only [forall_eq]
      refine ⟨fun z => out ?_, fun z => ⟨b1.1, b1.2.1, b, rfl, hb4, sb, esb, hsb, ?_⟩⟩
      · have hn := b2n z
        by_cases q1 : n0 < 0
        · exact Or.inl q1
        · by_cases q2 : i < 0
          · exact Or.inr (Or.inl q2)
          · exact Or.inr (Or.inr (Or.inr (Or.inl (Nat.lt_of_not_le fun q => hn ⟨i_not_lt.mp q2, i_not_lt.mp q1, q⟩))))
      · obtain ⟨p1, p2, p3⟩ := b2t z
        subst hB90
        unfold BX5_copy_90
        simp only [T_X5_isSheet, T_X2_hasFrom, i_const, i_lconst, i_iload, i_aload, i_lload, i_istore, i_astore, i_lstore, i_iinc, i_bin, i_div, i_un, i_i2l, i_l2i, i_lbin, i_lcmp, i_if, i_icmp, i_dup, i_dup_x1, i_dup2, i_pop, i_geti, i_getr, i_getd, i_puti, i_putz, i_putd, i_iald, i_bald, i_aald, i_iast, i_bast, i_alen, i_keep, i_ret, i_retz, i_reta, i_retl, i_retv, i_callv, i_callk, i_calls, i_mm, i_copy, i_under, i_undld, i_ldcs, i_sw, q_swc0, q_swc1, q_lg0, q_lg1, q_lent0, q_lent1, lset, lset2, q_lins0, q_lins1, q_ldel0, q_ldel1, q_ldel20, q_ldel21, q_lkeep0, q_lkeep1, q_memb0, q_memb1, cat2, Nat.reduceBEq, decide_true, decide_false, decide_eq_true_eq, cond_true, cond_false, Bool.and_true, Bool.and_false, Bool.true_and, Bool.false_and, f_iadd, f_isub, f_imul, f_ishl, f_ishr, f_iushr, f_iand, f_ior, f_idiv, f_irem, f_ineg, f_i2b, f_i2s, f_ladd, f_lmul, c_eq, c_ne, c_lt, c_ge, c_gt, c_le, cc_eq, cc_ne, cc_lt, cc_ge, cc_gt, cc_le, rfo, aof, csum, Value.category, List.take, List.drop, List.reverse, List.reverseAux, List.map, List.sum_cons, List.sum_nil, List.cons_append, List.nil_append, Option.toList, List.mem_cons, List.not_mem_nil, List.length_cons, List.length_nil, reduceIte, Nat.reduceEqDiff, Nat.reduceAdd, Nat.reduceLeDiff, Nat.reduceLT, a_day, Nat.zero_ne_one, Nat.one_ne_zero, false_and, and_false, true_and, and_true, or_false, false_or, or_true, true_or, not_true_eq_false, not_false_eq_true, Nat.zero_add, Nat.add_zero, Nat.le_refl, Nat.lt_irrefl, Nat.zero_lt_succ, Nat.zero_le, forall_const, List.cons.injEq, Value.int.injEq, Value.ref.injEq, Value.long.injEq, and_assoc, exists_and_left, exists_eq_left']
        try simp only [forall_eq]
        refine ⟨fun u => ?_, fun u => out ?_⟩
        · obtain ⟨p4, -, p6⟩ := b2t u
          obtain ⟨i', hi31, ei⟩ := nI_of (i_not_lt.mpr p1)
          obtain ⟨n', hn31, en⟩ := nI_of (i_not_lt.mpr p2)
          obtain ⟨j', hj31, ej⟩ := nI_of (i_not_lt.mpr p4)
          have hc' := hc
          rw [ei, en, nI_clamp hi31, nI_clamp hn31] at p3
          rw [ej, en, nI_clamp hj31, nI_clamp hn31] at p6
          have ok : ¬ copA srt siz sh i ot j n0 < 0 := by
            rw [hc', if_neg]
            · exact i_not_lt.mpr p2
            · intro q
              rw [ei, ej, en, nI_clamp hi31, nI_clamp hj31, nI_clamp hn31] at q
              rcases q with q | q | q | q | q
              · exact nI_pos hn31 q
              · exact nI_pos hi31 q
              · exact nI_pos hj31 q
              · omega
              · omega
          rw [ei, ej, en, nI_clamp hi31, nI_clamp hj31, nI_clamp hn31]
          have e33 : ∀ x, (32 + 2 * x + 1 : Nat) = 33 + 2 * x := by intro x; omega
          simp only [e33, a3, b3]
          refine ⟨a1, b1, a2, b2, nI_pos hi31, nI_pos hj31, nI_pos hn31, by omega, by omega, h ok a b i' j' n' _ ea eb ha hb4 ei ej en (by omega) (by omega) ?_ ?_⟩
          · intro x y hx
            unfold mcpy
            split
            · next e =>
              subst e
              unfold va_cpy
              rw [if_neg (by omega)]
            · rfl
          · intro k hk
            rw [mcpy_self]
            unfold va_cpy
            rw [if_pos (by omega)]
            congr 1
            omega
        · have hn := b2n (Decidable.not_not.mp u)
          by_cases q2 : j < 0
          · exact Or.inr (Or.inr (Or.inl q2))
          · exact Or.inr (Or.inr (Or.inr (Or.inr (Nat.lt_of_not_le fun q => hn ⟨i_not_lt.mp q2, p2, q⟩))))
    · have na := i_not_lt.mpr (ma.mp y1)
      have nb := i_not_lt.mpr (mb'.mp y2)
      rw [hc, if_neg (fun q => q.elim na nb), if_pos y3]
    
