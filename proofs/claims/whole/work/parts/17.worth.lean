/-! ===== glad, worth, stretch, tightest, drawn joys ===== -/
def gl9 (x : Int32) : Int32 := if x < -999 then -999 else x
theorem gl9_max (x : Int32) : f_max (-999) x = gl9 x := by
  rw [max_app]; unfold gl9
  by_cases h : x < -999
  · rw [if_pos h, if_neg]; rw [i_not_lt, i_le]; rw [i_lt] at h; omega
  · rw [if_neg h]
    by_cases h2 : -999 < x
    · rw [if_pos h2]
    · rw [if_neg h2]; apply Int32.toInt_inj.mp; rw [i_not_lt, i_le] at h h2; omega
theorem gld_eq (X : XV) (D : DV) (h : Nat) : gld X D h = if gon D h then 0 else gl9 (D 0 h - strn X D (dn D) h) := rfl
def T_X0_glad (g : WG) (as : List Value) (M : MM) (Q : Option Value → MM → Prop) : Prop := ∃ (q h G : Nat), as = [.ref q, .int (nI h)] ∧ isD q ∧ h < 16 ∧ G < 65536 ∧ M q 7 = nI G ∧ Q (some (.int (if G.testBit h then 0 else gl9 (M (q + 1) h - M (q + 3) h)))) M
set_option maxRecDepth 100000 in
set_option maxHeartbeats 1000000 in
theorem t_X0_glad {l : Launch} {g : WG} (hg : Full g) : Ct l g yX0_glad cX0_glad 3 ((Option.some FieldType.int)) 1 (T_X0_glad g) := by
  refine Ct.of (by decide) (fun as M Q h => ?_) (fun p e s m args below meth c as M Q h C => ?_)
  · obtain ⟨q, h0, G, rfl, hq, hh, hG, h7, h⟩ := h; exact ⟨by simp, by simp [Value.category]⟩
  · obtain ⟨q, h0, G, rfl, hq, hh, hG, h7, h⟩ := h
    obtain ⟨o1, o2, o3, o4, o5, ⟨l1, l2, l3, l4⟩, og, ok⟩ := day_ok hg hq
    refine s_of (fun lv st M0 hs => ?_) (WX0_glad_0 C (by decide))
    obtain ⟨rfl, rfl, rfl⟩ := hs
    unfold BX0_glad_0
    generalize hB16 : BX0_glad_16 g Q  = B16
    simp only [i_const, i_lconst, i_iload, i_aload, i_lload, i_istore, i_astore, i_lstore, i_iinc, i_bin, i_div, i_un, i_i2l, i_l2i, i_lbin, i_lcmp, i_if, i_icmp, i_dup, i_dup_x1, i_dup2, i_pop, i_geti, i_getr, i_getd, i_puti, i_putz, i_putd, i_iald, i_bald, i_aald, i_iast, i_bast, i_alen, i_keep, i_ret, i_retz, i_reta, i_retl, i_retv, i_callv, i_callk, i_calls, i_mm, i_copy, i_under, i_undld, i_ldcs, i_sw, q_swc0, q_swc1, q_lg0, q_lg1, q_lent0, q_lent1, lset, lset2, q_lins0, q_lins1, q_ldel0, q_ldel1, q_ldel20, q_ldel21, q_lkeep0, q_lkeep1, q_memb0, q_memb1, cat2, Nat.reduceBEq, decide_true, decide_false, decide_eq_true_eq, cond_true, cond_false, Bool.and_true, Bool.and_false, Bool.true_and, Bool.false_and, f_iadd, f_isub, f_imul, f_ishl, f_ishr, f_iushr, f_iand, f_ior, f_idiv, f_irem, f_ineg, f_i2b, f_i2s, f_ladd, f_lmul, c_eq, c_ne, c_lt, c_ge, c_gt, c_le, cc_eq, cc_ne, cc_lt, cc_ge, cc_gt, cc_le, rfo, aof, csum, Value.category, List.take, List.drop, List.reverse, List.reverseAux, List.map, List.sum_cons, List.sum_nil, List.cons_append, List.nil_append, Option.toList, List.mem_cons, List.not_mem_nil, List.length_cons, List.length_nil, reduceIte, Nat.reduceEqDiff, Nat.reduceAdd, Nat.reduceLeDiff, Nat.reduceLT, a_day, Nat.zero_ne_one, Nat.one_ne_zero, false_and, and_false, true_and, and_true, or_false, false_or, or_true, true_or, not_true_eq_false, not_false_eq_true, Nat.zero_add, Nat.add_zero, Nat.le_refl, Nat.lt_irrefl, Nat.zero_lt_succ, Nat.zero_le, forall_const, List.cons.injEq, Value.int.injEq, Value.ref.injEq, Value.long.injEq, and_assoc, exists_and_left, exists_eq_left']
    try simp only [forall_eq]
    refine ⟨o1, ?_⟩
    rw [h7, shr_bit hG hh]
    cases hb : G.testBit h0 with
    | true =>
      rw [hb] at h
      refine ⟨fun _ => ?_, fun z => absurd (by decide) z⟩
      subst hB16
      unfold BX0_glad_16
      simp only [i_const, i_lconst, i_iload, i_aload, i_lload, i_istore, i_astore, i_lstore, i_iinc, i_bin, i_div, i_un, i_i2l, i_l2i, i_lbin, i_lcmp, i_if, i_icmp, i_dup, i_dup_x1, i_dup2, i_pop, i_geti, i_getr, i_getd, i_puti, i_putz, i_putd, i_iald, i_bald, i_aald, i_iast, i_bast, i_alen, i_keep, i_ret, i_retz, i_reta, i_retl, i_retv, i_callv, i_callk, i_calls, i_mm, i_copy, i_under, i_undld, i_ldcs, i_sw, q_swc0, q_swc1, q_lg0, q_lg1, q_lent0, q_lent1, lset, lset2, q_lins0, q_lins1, q_ldel0, q_ldel1, q_ldel20, q_ldel21, q_lkeep0, q_lkeep1, q_memb0, q_memb1, cat2, Nat.reduceBEq, decide_true, decide_false, decide_eq_true_eq, cond_true, cond_false, Bool.and_true, Bool.and_false, Bool.true_and, Bool.false_and, f_iadd, f_isub, f_imul, f_ishl, f_ishr, f_iushr, f_iand, f_ior, f_idiv, f_irem, f_ineg, f_i2b, f_i2s, f_ladd, f_lmul, c_eq, c_ne, c_lt, c_ge, c_gt, c_le, cc_eq, cc_ne, cc_lt, cc_ge, cc_gt, cc_le, rfo, aof, csum, Value.category, List.take, List.drop, List.reverse, List.reverseAux, List.map, List.sum_cons, List.sum_nil, List.cons_append, List.nil_append, Option.toList, List.mem_cons, List.not_mem_nil, List.length_cons, List.length_nil, reduceIte, Nat.reduceEqDiff, Nat.reduceAdd, Nat.reduceLeDiff, Nat.reduceLT, a_day, Nat.zero_ne_one, Nat.one_ne_zero, false_and, and_false, true_and, and_true, or_false, false_or, or_true, true_or, not_true_eq_false, not_false_eq_true, Nat.zero_add, Nat.add_zero, Nat.le_refl, Nat.lt_irrefl, Nat.zero_lt_succ, Nat.zero_le, forall_const, List.cons.injEq, Value.int.injEq, Value.ref.injEq, Value.long.injEq, and_assoc, exists_and_left, exists_eq_left']
      try simp only [forall_eq]
      exact ⟨h, fun z => z.elim⟩
    | false =>
      rw [hb] at h
      refine ⟨fun z => absurd rfl z, fun _ => ?_⟩
      subst hB16
      unfold BX0_glad_16
      simp only [i_const, i_lconst, i_iload, i_aload, i_lload, i_istore, i_astore, i_lstore, i_iinc, i_bin, i_div, i_un, i_i2l, i_l2i, i_lbin, i_lcmp, i_if, i_icmp, i_dup, i_dup_x1, i_dup2, i_pop, i_geti, i_getr, i_getd, i_puti, i_putz, i_putd, i_iald, i_bald, i_aald, i_iast, i_bast, i_alen, i_keep, i_ret, i_retz, i_reta, i_retl, i_retv, i_callv, i_callk, i_calls, i_mm, i_copy, i_under, i_undld, i_ldcs, i_sw, q_swc0, q_swc1, q_lg0, q_lg1, q_lent0, q_lent1, lset, lset2, q_lins0, q_lins1, q_ldel0, q_ldel1, q_ldel20, q_ldel21, q_lkeep0, q_lkeep1, q_memb0, q_memb1, cat2, Nat.reduceBEq, decide_true, decide_false, decide_eq_true_eq, cond_true, cond_false, Bool.and_true, Bool.and_false, Bool.true_and, Bool.false_and, f_iadd, f_isub, f_imul, f_ishl, f_ishr, f_iushr, f_iand, f_ior, f_idiv, f_irem, f_ineg, f_i2b, f_i2s, f_ladd, f_lmul, c_eq, c_ne, c_lt, c_ge, c_gt, c_le, cc_eq, cc_ne, cc_lt, cc_ge, cc_gt, cc_le, rfo, aof, csum, Value.category, List.take, List.drop, List.reverse, List.reverseAux, List.map, List.sum_cons, List.sum_nil, List.cons_append, List.nil_append, Option.toList, List.mem_cons, List.not_mem_nil, List.length_cons, List.length_nil, reduceIte, Nat.reduceEqDiff, Nat.reduceAdd, Nat.reduceLeDiff, Nat.reduceLT, a_day, Nat.zero_ne_one, Nat.one_ne_zero, false_and, and_false, true_and, and_true, or_false, false_or, or_true, true_or, not_true_eq_false, not_false_eq_true, Nat.zero_add, Nat.add_zero, Nat.le_refl, Nat.lt_irrefl, Nat.zero_lt_succ, Nat.zero_le, forall_const, List.cons.injEq, Value.int.injEq, Value.ref.injEq, Value.long.injEq, and_assoc, exists_and_left, exists_eq_left']
      try simp only [forall_eq]
      refine ⟨fun z => absurd z (by decide), fun _ => ⟨o1, o2, vp_in_nI (by omega) (by omega), o1, o4, vp_in_nI (by omega) (by omega), ?_⟩⟩
      rw [nI_clamp (by omega), gl9_max]; exact h
theorem sumI_congr {f f' : Nat → Int32} : ∀ {n : Nat}, (∀ h, h < n → f h = f' h) → sumI f n = sumI f' n
  | 0, _ => rfl
  | n + 1, h => by simp only [sumI, h n (by omega)]; rw [sumI_congr (fun j hj => h j (by omega))]
def T_X0_worth (g : WG) (as : List Value) (M : MM) (Q : Option Value → MM → Prop) : Prop := ∃ (q : Nat), as = [.ref q] ∧ okD M q ∧ ∀ M', Sm (XP q) M M' → Q (some (.int (wor (xc M) (dv M q)))) M'
set_option maxRecDepth 100000 in
set_option maxHeartbeats 1000000 in
theorem t_X0_worth {l : Launch} {g : WG} (hg : Full g) : Ct l g yX0_worth cX0_worth 3 ((Option.some FieldType.int)) 6 (T_X0_worth g) := by
  refine Ct.of (by decide) (fun as M Q h => ?_) (fun p e s m args below meth c as M Q h C => ?_)
  · obtain ⟨q, rfl, hq, h⟩ := h; exact ⟨by simp, by simp [Value.category]⟩
  · obtain ⟨q, rfl, hq, h⟩ := h
    obtain ⟨o1, o2, o3, o4, o5, ⟨l1, l2, l3, l4⟩, og, ok⟩ := day_ok hg hq.1
    have hqd := hq.1
    have hn := hq.n
    obtain ⟨Tn, hwf, -⟩ := hq.2
    have hG := gmk_16 hwf
    obtain ⟨I8, hI8⟩ : ∃ I : Nat → PP, I = (fun n lv st M' => ∃ k, lv = [(0, .ref q), (1, .int (sumI (gld (xc M) (dv M q)) k)), (2, .int (nI k))] ∧ st = [] ∧ k ≤ 16 ∧ n = 16 - k ∧ Sm (XP q) M M' ∧ M' q 7 = nI (gmk (dv M q) (dn (dv M q))) ∧ (∀ j, j < 16 → M' (q + 3) j = strn (xc M) (dv M q) (dn (dv M q)) j)) := ⟨_, rfl⟩
    obtain ⟨E8, hE8⟩ : ∃ E : PP, E = (fun lv st M => ∃ n, I8 n lv st M) := ⟨_, rfl⟩
    have iE8 : ∀ n lv st M, I8 n lv st M → E8 lv st M := fun n lv st M h => by rw [hE8]; exact ⟨n, h⟩
    have L8 : Sj p l e 6 s m args below meth c 3 g (MQ below (cQc g Q) args s 0 0 (gA g)) 8 E8 := by
      rw [hE8]
      refine s_ex (s_loop I8 (fun K8 k8 => WX0_worth_8 C (t_X0_weigh hg) (by decide) (t_X0_glad hg) (by decide) k8) ?_)
      intro n lv st M1 K8 hK8 hI; rw [hI8] at hI; obtain ⟨k, rfl, rfl, hk, rfl, hs, m7, m3⟩ := hI
      unfold BX0_worth_8
      generalize hB20 : BX0_worth_20 g Q (T_X0_weigh g) (T_X0_glad g) K8 = B20
      simp only [T_X0_weigh, T_X0_glad, i_const, i_lconst, i_iload, i_aload, i_lload, i_istore, i_astore, i_lstore, i_iinc, i_bin, i_div, i_un, i_i2l, i_l2i, i_lbin, i_lcmp, i_if, i_icmp, i_dup, i_dup_x1, i_dup2, i_pop, i_geti, i_getr, i_getd, i_puti, i_putz, i_putd, i_iald, i_bald, i_aald, i_iast, i_bast, i_alen, i_keep, i_ret, i_retz, i_reta, i_retl, i_retv, i_callv, i_callk, i_calls, i_mm, i_copy, i_under, i_undld, i_ldcs, i_sw, q_swc0, q_swc1, q_lg0, q_lg1, q_lent0, q_lent1, lset, lset2, q_lins0, q_lins1, q_ldel0, q_ldel1, q_ldel20, q_ldel21, q_lkeep0, q_lkeep1, q_memb0, q_memb1, cat2, Nat.reduceBEq, decide_true, decide_false, decide_eq_true_eq, cond_true, cond_false, Bool.and_true, Bool.and_false, Bool.true_and, Bool.false_and, f_iadd, f_isub, f_imul, f_ishl, f_ishr, f_iushr, f_iand, f_ior, f_idiv, f_irem, f_ineg, f_i2b, f_i2s, f_ladd, f_lmul, c_eq, c_ne, c_lt, c_ge, c_gt, c_le, cc_eq, cc_ne, cc_lt, cc_ge, cc_gt, cc_le, rfo, aof, csum, Value.category, List.take, List.drop, List.reverse, List.reverseAux, List.map, List.sum_cons, List.sum_nil, List.cons_append, List.nil_append, Option.toList, List.mem_cons, List.not_mem_nil, List.length_cons, List.length_nil, reduceIte, Nat.reduceEqDiff, Nat.reduceAdd, Nat.reduceLeDiff, Nat.reduceLT, a_day, Nat.zero_ne_one, Nat.one_ne_zero, false_and, and_false, true_and, and_true, or_false, false_or, or_true, true_or, not_true_eq_false, not_false_eq_true, Nat.zero_add, Nat.add_zero, Nat.le_refl, Nat.lt_irrefl, Nat.zero_lt_succ, Nat.zero_le, forall_const, List.cons.injEq, Value.int.injEq, Value.ref.injEq, Value.long.injEq, and_assoc, exists_and_left, exists_eq_left']
      try simp only [forall_eq]
      have c16 : (16 : Int32) = nI 16 := rfl
      rw [c16]
      refine ⟨fun z => ?_, fun z => ?_⟩
      · have hkk : k = 16 := by
          have := (nI_leI (a := 16) (b := k) (by omega) (by omega)).mp z
          omega
        subst hkk
        exact h M1 hs
      · have hlt : k < 16 := by
          rcases Nat.lt_or_ge k 16 with w | w
          · exact w
          · exact absurd (nI_le w (by omega)) z
        refine ⟨og, ok, k, rfl, hqd, hlt, gmk (dv M q) (dn (dv M q)), hG, m7, ?_⟩
        have hg1 : (if (gmk (dv M q) (dn (dv M q))).testBit k then (0 : Int32) else gl9 (M1 (q + 1) k - M1 (q + 3) k)) = gld (xc M) (dv M q) k := by
          rw [gon_bit hwf hlt, m3 k hlt, gld_eq, dv_0 _ _ hlt, hs (q + 1) k (by unfold isD at hqd; unfold XP isPile; omega)]
        rw [hg1]
        subst hB20
        unfold BX0_worth_20
        simp only [T_X0_weigh, T_X0_glad, i_const, i_lconst, i_iload, i_aload, i_lload, i_istore, i_astore, i_lstore, i_iinc, i_bin, i_div, i_un, i_i2l, i_l2i, i_lbin, i_lcmp, i_if, i_icmp, i_dup, i_dup_x1, i_dup2, i_pop, i_geti, i_getr, i_getd, i_puti, i_putz, i_putd, i_iald, i_bald, i_aald, i_iast, i_bast, i_alen, i_keep, i_ret, i_retz, i_reta, i_retl, i_retv, i_callv, i_callk, i_calls, i_mm, i_copy, i_under, i_undld, i_ldcs, i_sw, q_swc0, q_swc1, q_lg0, q_lg1, q_lent0, q_lent1, lset, lset2, q_lins0, q_lins1, q_ldel0, q_ldel1, q_ldel20, q_ldel21, q_lkeep0, q_lkeep1, q_memb0, q_memb1, cat2, Nat.reduceBEq, decide_true, decide_false, decide_eq_true_eq, cond_true, cond_false, Bool.and_true, Bool.and_false, Bool.true_and, Bool.false_and, f_iadd, f_isub, f_imul, f_ishl, f_ishr, f_iushr, f_iand, f_ior, f_idiv, f_irem, f_ineg, f_i2b, f_i2s, f_ladd, f_lmul, c_eq, c_ne, c_lt, c_ge, c_gt, c_le, cc_eq, cc_ne, cc_lt, cc_ge, cc_gt, cc_le, rfo, aof, csum, Value.category, List.take, List.drop, List.reverse, List.reverseAux, List.map, List.sum_cons, List.sum_nil, List.cons_append, List.nil_append, Option.toList, List.mem_cons, List.not_mem_nil, List.length_cons, List.length_nil, reduceIte, Nat.reduceEqDiff, Nat.reduceAdd, Nat.reduceLeDiff, Nat.reduceLT, a_day, Nat.zero_ne_one, Nat.one_ne_zero, false_and, and_false, true_and, and_true, or_false, false_or, or_true, true_or, not_true_eq_false, not_false_eq_true, Nat.zero_add, Nat.add_zero, Nat.le_refl, Nat.lt_irrefl, Nat.zero_lt_succ, Nat.zero_le, forall_const, List.cons.injEq, Value.int.injEq, Value.ref.injEq, Value.long.injEq, and_assoc, exists_and_left, exists_eq_left']
        try simp only [forall_eq]
        refine hK8 (16 - (k + 1)) _ _ _ (by omega) ?_
        rw [hI8]
        exact ⟨k + 1, by rw [nI_1]; rfl, rfl, by omega, rfl, hs, m7, m3⟩
    refine s_of (fun lv st M0 hs => ?_) (WX0_worth_0 C (t_X0_weigh hg) (by decide) (t_X0_glad hg) (by decide) L8)
    obtain ⟨rfl, rfl, rfl⟩ := hs
    unfold BX0_worth_0
    generalize hB4 : BX0_worth_4 g Q (T_X0_weigh g) (T_X0_glad g) E8 = B4
    simp only [T_X0_weigh, T_X0_glad, i_const, i_lconst, i_iload, i_aload, i_lload, i_istore, i_astore, i_lstore, i_iinc, i_bin, i_div, i_un, i_i2l, i_l2i, i_lbin, i_lcmp, i_if, i_icmp, i_dup, i_dup_x1, i_dup2, i_pop, i_geti, i_getr, i_getd, i_puti, i_putz, i_putd, i_iald, i_bald, i_aald, i_iast, i_bast, i_alen, i_keep, i_ret, i_retz, i_reta, i_retl, i_retv, i_callv, i_callk, i_calls, i_mm, i_copy, i_under, i_undld, i_ldcs, i_sw, q_swc0, q_swc1, q_lg0, q_lg1, q_lent0, q_lent1, lset, lset2, q_lins0, q_lins1, q_ldel0, q_ldel1, q_ldel20, q_ldel21, q_lkeep0, q_lkeep1, q_memb0, q_memb1, cat2, Nat.reduceBEq, decide_true, decide_false, decide_eq_true_eq, cond_true, cond_false, Bool.and_true, Bool.and_false, Bool.true_and, Bool.false_and, f_iadd, f_isub, f_imul, f_ishl, f_ishr, f_iushr, f_iand, f_ior, f_idiv, f_irem, f_ineg, f_i2b, f_i2s, f_ladd, f_lmul, c_eq, c_ne, c_lt, c_ge, c_gt, c_le, cc_eq, cc_ne, cc_lt, cc_ge, cc_gt, cc_le, rfo, aof, csum, Value.category, List.take, List.drop, List.reverse, List.reverseAux, List.map, List.sum_cons, List.sum_nil, List.cons_append, List.nil_append, Option.toList, List.mem_cons, List.not_mem_nil, List.length_cons, List.length_nil, reduceIte, Nat.reduceEqDiff, Nat.reduceAdd, Nat.reduceLeDiff, Nat.reduceLT, a_day, Nat.zero_ne_one, Nat.one_ne_zero, false_and, and_false, true_and, and_true, or_false, false_or, or_true, true_or, not_true_eq_false, not_false_eq_true, Nat.zero_add, Nat.add_zero, Nat.le_refl, Nat.lt_irrefl, Nat.zero_lt_succ, Nat.zero_le, forall_const, List.cons.injEq, Value.int.injEq, Value.ref.injEq, Value.long.injEq, and_assoc, exists_and_left, exists_eq_left']
    try simp only [forall_eq]
    refine ⟨og, ok, hq, fun M1 hs1 m7 m3 m8 => ?_⟩
    subst hB4
    unfold BX0_worth_4
    simp only [T_X0_weigh, T_X0_glad, i_const, i_lconst, i_iload, i_aload, i_lload, i_istore, i_astore, i_lstore, i_iinc, i_bin, i_div, i_un, i_i2l, i_l2i, i_lbin, i_lcmp, i_if, i_icmp, i_dup, i_dup_x1, i_dup2, i_pop, i_geti, i_getr, i_getd, i_puti, i_putz, i_putd, i_iald, i_bald, i_aald, i_iast, i_bast, i_alen, i_keep, i_ret, i_retz, i_reta, i_retl, i_retv, i_callv, i_callk, i_calls, i_mm, i_copy, i_under, i_undld, i_ldcs, i_sw, q_swc0, q_swc1, q_lg0, q_lg1, q_lent0, q_lent1, lset, lset2, q_lins0, q_lins1, q_ldel0, q_ldel1, q_ldel20, q_ldel21, q_lkeep0, q_lkeep1, q_memb0, q_memb1, cat2, Nat.reduceBEq, decide_true, decide_false, decide_eq_true_eq, cond_true, cond_false, Bool.and_true, Bool.and_false, Bool.true_and, Bool.false_and, f_iadd, f_isub, f_imul, f_ishl, f_ishr, f_iushr, f_iand, f_ior, f_idiv, f_irem, f_ineg, f_i2b, f_i2s, f_ladd, f_lmul, c_eq, c_ne, c_lt, c_ge, c_gt, c_le, cc_eq, cc_ne, cc_lt, cc_ge, cc_gt, cc_le, rfo, aof, csum, Value.category, List.take, List.drop, List.reverse, List.reverseAux, List.map, List.sum_cons, List.sum_nil, List.cons_append, List.nil_append, Option.toList, List.mem_cons, List.not_mem_nil, List.length_cons, List.length_nil, reduceIte, Nat.reduceEqDiff, Nat.reduceAdd, Nat.reduceLeDiff, Nat.reduceLT, a_day, Nat.zero_ne_one, Nat.one_ne_zero, false_and, and_false, true_and, and_true, or_false, false_or, or_true, true_or, not_true_eq_false, not_false_eq_true, Nat.zero_add, Nat.add_zero, Nat.le_refl, Nat.lt_irrefl, Nat.zero_lt_succ, Nat.zero_le, forall_const, List.cons.injEq, Value.int.injEq, Value.ref.injEq, Value.long.injEq, and_assoc, exists_and_left, exists_eq_left']
    try simp only [forall_eq]
    refine iE8 (16 - 0) _ _ _ ?_
    rw [hI8]
    exact ⟨0, rfl, rfl, by omega, rfl, hs1, m7, m3⟩
def T_X0_allJoys (g : WG) (as : List Value) (M : MM) (Q : Option Value → MM → Prop) : Prop := ∃ (q : Nat), as = [.ref q] ∧ isD q ∧ Q (some (.int (sumI (fun h => dv M q 0 h) 16))) M
set_option maxRecDepth 100000 in
set_option maxHeartbeats 1000000 in
theorem t_X0_allJoys {l : Launch} {g : WG} (hg : Full g) : Ct l g yX0_allJoys cX0_allJoys 3 ((Option.some FieldType.int)) 1 (T_X0_allJoys g) := by
  refine Ct.of (by decide) (fun as M Q h => ?_) (fun p e s m args below meth c as M Q h C => ?_)
  · obtain ⟨q, rfl, hq, h⟩ := h; exact ⟨by simp, by simp [Value.category]⟩
  · obtain ⟨q, rfl, hq, h⟩ := h
    obtain ⟨o1, o2, o3, o4, o5, ⟨l1, l2, l3, l4⟩, og, ok⟩ := day_ok hg hq
    obtain ⟨I4, hI4⟩ : ∃ I : Nat → PP, I = (fun n lv st M' => M' = M ∧ ∃ k, lv = [(0, .ref q), (1, .int (sumI (fun h => dv M q 0 h) k)), (2, .int (nI k))] ∧ st = [] ∧ k ≤ 16 ∧ n = 16 - k) := ⟨_, rfl⟩
    obtain ⟨E4, hE4⟩ : ∃ E : PP, E = (fun lv st M => ∃ n, I4 n lv st M) := ⟨_, rfl⟩
    have iE4 : ∀ n lv st M, I4 n lv st M → E4 lv st M := fun n lv st M h => by rw [hE4]; exact ⟨n, h⟩
    have L4 : Sj p l e 1 s m args below meth c 3 g (MQ below (cQc g Q) args s 0 0 (gA g)) 4 E4 := by
      rw [hE4]
      refine s_ex (s_loop I4 (fun K4 k4 => WX0_allJoys_4 C k4) ?_)
      intro n lv st M1 K4 hK4 hI; rw [hI4] at hI; obtain ⟨rfl, k, rfl, rfl, hk, rfl⟩ := hI
      unfold BX0_allJoys_4
      simp only [i_const, i_lconst, i_iload, i_aload, i_lload, i_istore, i_astore, i_lstore, i_iinc, i_bin, i_div, i_un, i_i2l, i_l2i, i_lbin, i_lcmp, i_if, i_icmp, i_dup, i_dup_x1, i_dup2, i_pop, i_geti, i_getr, i_getd, i_puti, i_putz, i_putd, i_iald, i_bald, i_aald, i_iast, i_bast, i_alen, i_keep, i_ret, i_retz, i_reta, i_retl, i_retv, i_callv, i_callk, i_calls, i_mm, i_copy, i_under, i_undld, i_ldcs, i_sw, q_swc0, q_swc1, q_lg0, q_lg1, q_lent0, q_lent1, lset, lset2, q_lins0, q_lins1, q_ldel0, q_ldel1, q_ldel20, q_ldel21, q_lkeep0, q_lkeep1, q_memb0, q_memb1, cat2, Nat.reduceBEq, decide_true, decide_false, decide_eq_true_eq, cond_true, cond_false, Bool.and_true, Bool.and_false, Bool.true_and, Bool.false_and, f_iadd, f_isub, f_imul, f_ishl, f_ishr, f_iushr, f_iand, f_ior, f_idiv, f_irem, f_ineg, f_i2b, f_i2s, f_ladd, f_lmul, c_eq, c_ne, c_lt, c_ge, c_gt, c_le, cc_eq, cc_ne, cc_lt, cc_ge, cc_gt, cc_le, rfo, aof, csum, Value.category, List.take, List.drop, List.reverse, List.reverseAux, List.map, List.sum_cons, List.sum_nil, List.cons_append, List.nil_append, Option.toList, List.mem_cons, List.not_mem_nil, List.length_cons, List.length_nil, reduceIte, Nat.reduceEqDiff, Nat.reduceAdd, Nat.reduceLeDiff, Nat.reduceLT, a_day, Nat.zero_ne_one, Nat.one_ne_zero, false_and, and_false, true_and, and_true, or_false, false_or, or_true, true_or, not_true_eq_false, not_false_eq_true, Nat.zero_add, Nat.add_zero, Nat.le_refl, Nat.lt_irrefl, Nat.zero_lt_succ, Nat.zero_le, forall_const, List.cons.injEq, Value.int.injEq, Value.ref.injEq, Value.long.injEq, and_assoc, exists_and_left, exists_eq_left']
      try simp only [forall_eq]
      have c16 : (16 : Int32) = nI 16 := rfl
      rw [c16]
      refine ⟨fun z => ?_, fun z => ?_⟩
      · have hkk : k = 16 := by
          have := (nI_leI (a := 16) (b := k) (by omega) (by omega)).mp z
          omega
        subst hkk
        exact h
      · have hlt : k < 16 := by
          rcases Nat.lt_or_ge k 16 with w | w
          · exact w
          · exact absurd (nI_le w (by omega)) z
        refine ⟨o1, o2, vp_in_nI (by omega) (by omega), ?_⟩
        refine hK4 (16 - (k + 1)) _ _ _ (by omega) ?_
        rw [hI4, nI_clamp (by omega)]
        refine ⟨rfl, k + 1, by rw [nI_1]; simp only [sumI, dv_0 _ _ hlt], rfl, by omega, rfl⟩
    refine s_of (fun lv st M0 hs => ?_) (WX0_allJoys_0 C L4)
    obtain ⟨rfl, rfl, rfl⟩ := hs
    unfold BX0_allJoys_0
    simp only [i_const, i_lconst, i_iload, i_aload, i_lload, i_istore, i_astore, i_lstore, i_iinc, i_bin, i_div, i_un, i_i2l, i_l2i, i_lbin, i_lcmp, i_if, i_icmp, i_dup, i_dup_x1, i_dup2, i_pop, i_geti, i_getr, i_getd, i_puti, i_putz, i_putd, i_iald, i_bald, i_aald, i_iast, i_bast, i_alen, i_keep, i_ret, i_retz, i_reta, i_retl, i_retv, i_callv, i_callk, i_calls, i_mm, i_copy, i_under, i_undld, i_ldcs, i_sw, q_swc0, q_swc1, q_lg0, q_lg1, q_lent0, q_lent1, lset, lset2, q_lins0, q_lins1, q_ldel0, q_ldel1, q_ldel20, q_ldel21, q_lkeep0, q_lkeep1, q_memb0, q_memb1, cat2, Nat.reduceBEq, decide_true, decide_false, decide_eq_true_eq, cond_true, cond_false, Bool.and_true, Bool.and_false, Bool.true_and, Bool.false_and, f_iadd, f_isub, f_imul, f_ishl, f_ishr, f_iushr, f_iand, f_ior, f_idiv, f_irem, f_ineg, f_i2b, f_i2s, f_ladd, f_lmul, c_eq, c_ne, c_lt, c_ge, c_gt, c_le, cc_eq, cc_ne, cc_lt, cc_ge, cc_gt, cc_le, rfo, aof, csum, Value.category, List.take, List.drop, List.reverse, List.reverseAux, List.map, List.sum_cons, List.sum_nil, List.cons_append, List.nil_append, Option.toList, List.mem_cons, List.not_mem_nil, List.length_cons, List.length_nil, reduceIte, Nat.reduceEqDiff, Nat.reduceAdd, Nat.reduceLeDiff, Nat.reduceLT, a_day, Nat.zero_ne_one, Nat.one_ne_zero, false_and, and_false, true_and, and_true, or_false, false_or, or_true, true_or, not_true_eq_false, not_false_eq_true, Nat.zero_add, Nat.add_zero, Nat.le_refl, Nat.lt_irrefl, Nat.zero_lt_succ, Nat.zero_le, forall_const, List.cons.injEq, Value.int.injEq, Value.ref.injEq, Value.long.injEq, and_assoc, exists_and_left, exists_eq_left']
    try simp only [forall_eq]
    refine iE4 (16 - 0) _ _ _ ?_
    rw [hI4]
    exact ⟨rfl, 0, rfl, rfl, by omega, rfl⟩
def T_X0_stretch (g : WG) (as : List Value) (M : MM) (Q : Option Value → MM → Prop) : Prop := ∃ (q : Nat), as = [.ref q] ∧ okD M q ∧ Q (some (.int (stm (gon (dv M q)) 16))) M
set_option maxRecDepth 100000 in
set_option maxHeartbeats 1000000 in
theorem t_X0_stretch {l : Launch} {g : WG} (hg : Full g) : Ct l g yX0_stretch cX0_stretch 5 ((Option.some FieldType.int)) 3 (T_X0_stretch g) := by
  refine Ct.of (by decide) (fun as M Q h => ?_) (fun p e s m args below meth c as M Q h C => ?_)
  · obtain ⟨q, rfl, hq, h⟩ := h; exact ⟨by simp, by simp [Value.category]⟩
  · obtain ⟨q, rfl, hq, h⟩ := h
    obtain ⟨o1, o2, o3, o4, o5, ⟨l1, l2, l3, l4⟩, og, ok⟩ := day_ok hg hq.1
    obtain ⟨Tn, hwf, -⟩ := hq.2
    have hG := gmk_16 hwf
    obtain ⟨I12, hI12⟩ : ∃ I : Nat → PP, I = (fun n lv st M' => M' = M ∧ ∃ k, lv = [(1, .int (nI (gmk (dv M q) (dn (dv M q))))), (2, .int (stm (gon (dv M q)) k)), (3, .int (stn (gon (dv M q)) k)), (4, .int (nI k))] ∧ st = [] ∧ k ≤ 16 ∧ n = 16 - k) := ⟨_, rfl⟩
    obtain ⟨E12, hE12⟩ : ∃ E : PP, E = (fun lv st M => ∃ n, I12 n lv st M) := ⟨_, rfl⟩
    have iE12 : ∀ n lv st M, I12 n lv st M → E12 lv st M := fun n lv st M h => by rw [hE12]; exact ⟨n, h⟩
    have L12 : Sj p l e 3 s m args below meth c 5 g (MQ below (cQc g Q) args s 0 0 (gA g)) 12 E12 := by
      rw [hE12]
      refine s_ex (s_loop I12 (fun K12 k12 => WX0_stretch_12 C (by decide) (t_X0_goneHours hg) (by decide) k12) ?_)
      intro n lv st M1 K12 hK12 hI; rw [hI12] at hI; obtain ⟨rfl, k, rfl, rfl, hk, rfl⟩ := hI
      unfold BX0_stretch_12
      generalize hB35 : BX0_stretch_35 g Q (T_X0_goneHours g) K12 = B35
      simp only [T_X0_goneHours, i_const, i_lconst, i_iload, i_aload, i_lload, i_istore, i_astore, i_lstore, i_iinc, i_bin, i_div, i_un, i_i2l, i_l2i, i_lbin, i_lcmp, i_if, i_icmp, i_dup, i_dup_x1, i_dup2, i_pop, i_geti, i_getr, i_getd, i_puti, i_putz, i_putd, i_iald, i_bald, i_aald, i_iast, i_bast, i_alen, i_keep, i_ret, i_retz, i_reta, i_retl, i_retv, i_callv, i_callk, i_calls, i_mm, i_copy, i_under, i_undld, i_ldcs, i_sw, q_swc0, q_swc1, q_lg0, q_lg1, q_lent0, q_lent1, lset, lset2, q_lins0, q_lins1, q_ldel0, q_ldel1, q_ldel20, q_ldel21, q_lkeep0, q_lkeep1, q_memb0, q_memb1, cat2, Nat.reduceBEq, decide_true, decide_false, decide_eq_true_eq, cond_true, cond_false, Bool.and_true, Bool.and_false, Bool.true_and, Bool.false_and, f_iadd, f_isub, f_imul, f_ishl, f_ishr, f_iushr, f_iand, f_ior, f_idiv, f_irem, f_ineg, f_i2b, f_i2s, f_ladd, f_lmul, c_eq, c_ne, c_lt, c_ge, c_gt, c_le, cc_eq, cc_ne, cc_lt, cc_ge, cc_gt, cc_le, rfo, aof, csum, Value.category, List.take, List.drop, List.reverse, List.reverseAux, List.map, List.sum_cons, List.sum_nil, List.cons_append, List.nil_append, Option.toList, List.mem_cons, List.not_mem_nil, List.length_cons, List.length_nil, reduceIte, Nat.reduceEqDiff, Nat.reduceAdd, Nat.reduceLeDiff, Nat.reduceLT, a_day, Nat.zero_ne_one, Nat.one_ne_zero, false_and, and_false, true_and, and_true, or_false, false_or, or_true, true_or, not_true_eq_false, not_false_eq_true, Nat.zero_add, Nat.add_zero, Nat.le_refl, Nat.lt_irrefl, Nat.zero_lt_succ, Nat.zero_le, forall_const, List.cons.injEq, Value.int.injEq, Value.ref.injEq, Value.long.injEq, and_assoc, exists_and_left, exists_eq_left']
      try simp only [forall_eq]
      have c16 : (16 : Int32) = nI 16 := rfl
      rw [c16]
      refine ⟨fun z => ?_, fun z => ?_⟩
      · have hkk : k = 16 := by
          have := (nI_leI (a := 16) (b := k) (by omega) (by omega)).mp z
          omega
        subst hkk
        exact h
      · have hlt : k < 16 := by
          rcases Nat.lt_or_ge k 16 with w | w
          · exact w
          · exact absurd (nI_le w (by omega)) z
        have fin : ∀ x, x = stn (gon (dv M1 q)) (k + 1) → B35 [(1, .int (nI (gmk (dv M1 q) (dn (dv M1 q))))), (2, .int (stm (gon (dv M1 q)) k)), (3, .int (stn (gon (dv M1 q)) k)), (4, .int (nI k))] [.int x] M1 := by
          intro x hx
          subst hx
          subst hB35
          unfold BX0_stretch_35
          simp only [T_X0_goneHours, i_const, i_lconst, i_iload, i_aload, i_lload, i_istore, i_astore, i_lstore, i_iinc, i_bin, i_div, i_un, i_i2l, i_l2i, i_lbin, i_lcmp, i_if, i_icmp, i_dup, i_dup_x1, i_dup2, i_pop, i_geti, i_getr, i_getd, i_puti, i_putz, i_putd, i_iald, i_bald, i_aald, i_iast, i_bast, i_alen, i_keep, i_ret, i_retz, i_reta, i_retl, i_retv, i_callv, i_callk, i_calls, i_mm, i_copy, i_under, i_undld, i_ldcs, i_sw, q_swc0, q_swc1, q_lg0, q_lg1, q_lent0, q_lent1, lset, lset2, q_lins0, q_lins1, q_ldel0, q_ldel1, q_ldel20, q_ldel21, q_lkeep0, q_lkeep1, q_memb0, q_memb1, cat2, Nat.reduceBEq, decide_true, decide_false, decide_eq_true_eq, cond_true, cond_false, Bool.and_true, Bool.and_false, Bool.true_and, Bool.false_and, f_iadd, f_isub, f_imul, f_ishl, f_ishr, f_iushr, f_iand, f_ior, f_idiv, f_irem, f_ineg, f_i2b, f_i2s, f_ladd, f_lmul, c_eq, c_ne, c_lt, c_ge, c_gt, c_le, cc_eq, cc_ne, cc_lt, cc_ge, cc_gt, cc_le, rfo, aof, csum, Value.category, List.take, List.drop, List.reverse, List.reverseAux, List.map, List.sum_cons, List.sum_nil, List.cons_append, List.nil_append, Option.toList, List.mem_cons, List.not_mem_nil, List.length_cons, List.length_nil, reduceIte, Nat.reduceEqDiff, Nat.reduceAdd, Nat.reduceLeDiff, Nat.reduceLT, a_day, Nat.zero_ne_one, Nat.one_ne_zero, false_and, and_false, true_and, and_true, or_false, false_or, or_true, true_or, not_true_eq_false, not_false_eq_true, Nat.zero_add, Nat.add_zero, Nat.le_refl, Nat.lt_irrefl, Nat.zero_lt_succ, Nat.zero_le, forall_const, List.cons.injEq, Value.int.injEq, Value.ref.injEq, Value.long.injEq, and_assoc, exists_and_left, exists_eq_left']
          try simp only [forall_eq]
          refine hK12 (16 - (k + 1)) _ _ _ (by omega) ?_
          rw [hI12]
          exact ⟨rfl, k + 1, by rw [nI_1, max_app]; rfl, rfl, by omega, rfl⟩
        rw [shr_bit hG hlt, gon_bit hwf hlt]
        refine ⟨fun y => fin 0 ?_, fun y => fin _ ?_⟩
        · cases hb : gon (dv M1 q) k with
          | true => simp only [stn, hb, if_true]
          | false => rw [hb] at y; exact absurd rfl y
        · cases hb : gon (dv M1 q) k with
          | true => rw [hb] at y; exact absurd (by decide) y
          | false => simp only [stn, hb]; rfl
    refine s_of (fun lv st M0 hs => ?_) (WX0_stretch_0 C (by decide) (t_X0_goneHours hg) (by decide) L12)
    obtain ⟨rfl, rfl, rfl⟩ := hs
    unfold BX0_stretch_0
    generalize hB4 : BX0_stretch_4 g Q (T_X0_goneHours g) E12 = B4
    simp only [T_X0_goneHours, i_const, i_lconst, i_iload, i_aload, i_lload, i_istore, i_astore, i_lstore, i_iinc, i_bin, i_div, i_un, i_i2l, i_l2i, i_lbin, i_lcmp, i_if, i_icmp, i_dup, i_dup_x1, i_dup2, i_pop, i_geti, i_getr, i_getd, i_puti, i_putz, i_putd, i_iald, i_bald, i_aald, i_iast, i_bast, i_alen, i_keep, i_ret, i_retz, i_reta, i_retl, i_retv, i_callv, i_callk, i_calls, i_mm, i_copy, i_under, i_undld, i_ldcs, i_sw, q_swc0, q_swc1, q_lg0, q_lg1, q_lent0, q_lent1, lset, lset2, q_lins0, q_lins1, q_ldel0, q_ldel1, q_ldel20, q_ldel21, q_lkeep0, q_lkeep1, q_memb0, q_memb1, cat2, Nat.reduceBEq, decide_true, decide_false, decide_eq_true_eq, cond_true, cond_false, Bool.and_true, Bool.and_false, Bool.true_and, Bool.false_and, f_iadd, f_isub, f_imul, f_ishl, f_ishr, f_iushr, f_iand, f_ior, f_idiv, f_irem, f_ineg, f_i2b, f_i2s, f_ladd, f_lmul, c_eq, c_ne, c_lt, c_ge, c_gt, c_le, cc_eq, cc_ne, cc_lt, cc_ge, cc_gt, cc_le, rfo, aof, csum, Value.category, List.take, List.drop, List.reverse, List.reverseAux, List.map, List.sum_cons, List.sum_nil, List.cons_append, List.nil_append, Option.toList, List.mem_cons, List.not_mem_nil, List.length_cons, List.length_nil, reduceIte, Nat.reduceEqDiff, Nat.reduceAdd, Nat.reduceLeDiff, Nat.reduceLT, a_day, Nat.zero_ne_one, Nat.one_ne_zero, false_and, and_false, true_and, and_true, or_false, false_or, or_true, true_or, not_true_eq_false, not_false_eq_true, Nat.zero_add, Nat.add_zero, Nat.le_refl, Nat.lt_irrefl, Nat.zero_lt_succ, Nat.zero_le, forall_const, List.cons.injEq, Value.int.injEq, Value.ref.injEq, Value.long.injEq, and_assoc, exists_and_left, exists_eq_left']
    try simp only [forall_eq]
    refine ⟨og, ok, hq, ?_⟩
    subst hB4
    unfold BX0_stretch_4
    simp only [T_X0_goneHours, i_const, i_lconst, i_iload, i_aload, i_lload, i_istore, i_astore, i_lstore, i_iinc, i_bin, i_div, i_un, i_i2l, i_l2i, i_lbin, i_lcmp, i_if, i_icmp, i_dup, i_dup_x1, i_dup2, i_pop, i_geti, i_getr, i_getd, i_puti, i_putz, i_putd, i_iald, i_bald, i_aald, i_iast, i_bast, i_alen, i_keep, i_ret, i_retz, i_reta, i_retl, i_retv, i_callv, i_callk, i_calls, i_mm, i_copy, i_under, i_undld, i_ldcs, i_sw, q_swc0, q_swc1, q_lg0, q_lg1, q_lent0, q_lent1, lset, lset2, q_lins0, q_lins1, q_ldel0, q_ldel1, q_ldel20, q_ldel21, q_lkeep0, q_lkeep1, q_memb0, q_memb1, cat2, Nat.reduceBEq, decide_true, decide_false, decide_eq_true_eq, cond_true, cond_false, Bool.and_true, Bool.and_false, Bool.true_and, Bool.false_and, f_iadd, f_isub, f_imul, f_ishl, f_ishr, f_iushr, f_iand, f_ior, f_idiv, f_irem, f_ineg, f_i2b, f_i2s, f_ladd, f_lmul, c_eq, c_ne, c_lt, c_ge, c_gt, c_le, cc_eq, cc_ne, cc_lt, cc_ge, cc_gt, cc_le, rfo, aof, csum, Value.category, List.take, List.drop, List.reverse, List.reverseAux, List.map, List.sum_cons, List.sum_nil, List.cons_append, List.nil_append, Option.toList, List.mem_cons, List.not_mem_nil, List.length_cons, List.length_nil, reduceIte, Nat.reduceEqDiff, Nat.reduceAdd, Nat.reduceLeDiff, Nat.reduceLT, a_day, Nat.zero_ne_one, Nat.one_ne_zero, false_and, and_false, true_and, and_true, or_false, false_or, or_true, true_or, not_true_eq_false, not_false_eq_true, Nat.zero_add, Nat.add_zero, Nat.le_refl, Nat.lt_irrefl, Nat.zero_lt_succ, Nat.zero_le, forall_const, List.cons.injEq, Value.int.injEq, Value.ref.injEq, Value.long.injEq, and_assoc, exists_and_left, exists_eq_left']
    try simp only [forall_eq]
    refine iE12 (16 - 0) _ _ _ ?_
    rw [hI12]
    exact ⟨rfl, 0, rfl, rfl, by omega, rfl⟩
theorem eor_lt {m : Nat} {hh : Int32} (h : m < 65536) (ho : hok hh) : eorN m hh < 65536 := by
  unfold eorN
  split
  · rcases ho with rfl | ⟨j, hj, rfl⟩
    · next z => exact absurd z (by decide)
    · rw [nI_clamp (by omega)]
      exact Nat.or_lt_two_pow (n := 16) h (Nat.pow_lt_pow_right (by decide) hj)
  · exact h
theorem eor_bit {m j : Nat} {hh : Int32} (ho : hok hh) : (eorN m hh).testBit j = (m.testBit j || decide (hh = nI j ∧ j < 16)) := by
  rcases ho with rfl | ⟨k, hk, rfl⟩
  · have h1 : eorN m (-1) = m := if_neg (by decide)
    have h2 : ¬ ((-1 : Int32) = nI j ∧ j < 16) := fun e => nI_pos (n := j) (by omega) (by rw [← e.1]; decide)
    rw [h1]; simp [h2]
  · have h1 : eorN m (nI k) = m ||| 2 ^ k := by unfold eorN; rw [if_pos (nI_pos' (by omega)), nI_clamp (by omega)]
    rw [h1, Nat.testBit_or, Nat.testBit_two_pow]
    by_cases e : k = j
    · subst e; simp [hk]
    · have : ¬ (nI k = nI j ∧ j < 16) := fun z => e ((nI_eq (by omega) (by omega)).mp z.1)
      simp [e, this]
theorem hA_ok {D : DV} {s : Nat} (h : fi D s ≤ 16) : hok (hA D s) := ahd_ok _ h
theorem hB_ok {D : DV} {s : Nat} (h : la D s < 16) : hok (hB D s) := bhd_ok _ (by omega)
theorem emk_lt {D : DV} : ∀ {n : Nat}, (∀ s, s < n → fi D s ≤ la D s ∧ la D s < 16) → emk D n < 65536
  | 0, _ => by show 0 < 65536; decide
  | n + 1, h => by
    have ih := emk_lt (D := D) (n := n) (fun s hs => h s (by omega))
    obtain ⟨h1, h2⟩ := h n (by omega)
    simp only [emk]
    split
    · exact eor_lt (eor_lt ih (hA_ok (by omega))) (hB_ok h2)
    · exact ih
theorem emk_bit {D : DV} {j : Nat} (hj : j < 16) : ∀ {n : Nat}, (∀ s, s < n → fi D s ≤ la D s ∧ la D s < 16) → (emk D n).testBit j = edg D n j
  | 0, _ => by simp [emk, edg]
  | n + 1, h => by
    have ih := emk_bit (D := D) hj (n := n) (fun s hs => h s (by omega))
    obtain ⟨h1, h2⟩ := h n (by omega)
    simp only [emk, edg]
    by_cases hb : D 6 n = 0
    · rw [if_pos hb, eor_bit (hB_ok h2), eor_bit (hA_ok (by omega)), ih]
      simp [hb, hj, Bool.or_assoc]
    · rw [if_neg hb, ih]; simp [hb]
theorem tgt_ok (X : XV) (D : DV) : ∀ n, tgt X D n = -1 ∨ ∃ b, b < n ∧ tgt X D n = nI b
  | 0 => Or.inl rfl
  | n + 1 => by
    simp only [tgt]
    split
    · exact Or.inr ⟨n, by omega, rfl⟩
    · rcases tgt_ok X D n with h | ⟨b, hb, h⟩
      · exact Or.inl h
      · exact Or.inr ⟨b, by omega, h⟩
def T_X0_tightest (g : WG) (as : List Value) (M : MM) (Q : Option Value → MM → Prop) : Prop := ∃ (q : Nat), as = [.ref q] ∧ okD M q ∧ ∀ M', Sm (XP q) M M' → Q (some (.int (tgt (xc M) (dv M q) 16))) M'
set_option maxRecDepth 100000 in
set_option maxHeartbeats 1000000 in
theorem t_X0_tightest {l : Launch} {g : WG} (hg : Full g) : Ct l g yX0_tightest cX0_tightest 4 ((Option.some FieldType.int)) 6 (T_X0_tightest g) := by
  refine Ct.of (by decide) (fun as M Q h => ?_) (fun p e s m args below meth c as M Q h C => ?_)
  · obtain ⟨q, rfl, hq, h⟩ := h; exact ⟨by simp, by simp [Value.category]⟩
  · obtain ⟨q, rfl, hq, h⟩ := h
    obtain ⟨o1, o2, o3, o4, o5, ⟨l1, l2, l3, l4⟩, og, ok⟩ := day_ok hg hq.1
    have hqd := hq.1
    obtain ⟨Tn, hwf, -⟩ := hq.2
    have hE := emk_lt (n := dn (dv M q)) (fun s hs => ⟨(hwf.2.2.1 s hs).2.2.1, (hwf.2.2.1 s hs).2.2.2.1⟩)
    have hEb := fun j hj => emk_bit (j := j) hj (n := dn (dv M q)) (fun s hs => ⟨(hwf.2.2.1 s hs).2.2.1, (hwf.2.2.1 s hs).2.2.2.1⟩)
    obtain ⟨I8, hI8⟩ : ∃ I : Nat → PP, I = (fun n lv st M' => ∃ k, lv = [(0, .ref q), (1, .int (tgt (xc M) (dv M q) k)), (2, .int (nI k))] ∧ st = [] ∧ k ≤ 16 ∧ n = 16 - k ∧ Sm (XP q) M M' ∧ M' q 8 = nI (emk (dv M q) (dn (dv M q))) ∧ (∀ j, j < 16 → M' (q + 3) j = strn (xc M) (dv M q) (dn (dv M q)) j)) := ⟨_, rfl⟩
    obtain ⟨E8, hE8⟩ : ∃ E : PP, E = (fun lv st M => ∃ n, I8 n lv st M) := ⟨_, rfl⟩
    have iE8 : ∀ n lv st M, I8 n lv st M → E8 lv st M := fun n lv st M h => by rw [hE8]; exact ⟨n, h⟩
    have L8 : Sj p l e 6 s m args below meth c 4 g (MQ below (cQc g Q) args s 0 0 (gA g)) 8 E8 := by
      rw [hE8]
      refine s_ex (s_loop I8 (fun K8 k8 => WX0_tightest_8 C (t_X0_weigh hg) (by decide) k8) ?_)
      intro n lv st M1 K8 hK8 hI; rw [hI8] at hI; obtain ⟨k, rfl, rfl, hk, rfl, hs, m8, m3⟩ := hI
      unfold BX0_tightest_8
      generalize hB31 : BX0_tightest_31 g Q (T_X0_weigh g) K8 = B31
      simp only [T_X0_weigh, i_const, i_lconst, i_iload, i_aload, i_lload, i_istore, i_astore, i_lstore, i_iinc, i_bin, i_div, i_un, i_i2l, i_l2i, i_lbin, i_lcmp, i_if, i_icmp, i_dup, i_dup_x1, i_dup2, i_pop, i_geti, i_getr, i_getd, i_puti, i_putz, i_putd, i_iald, i_bald, i_aald, i_iast, i_bast, i_alen, i_keep, i_ret, i_retz, i_reta, i_retl, i_retv, i_callv, i_callk, i_calls, i_mm, i_copy, i_under, i_undld, i_ldcs, i_sw, q_swc0, q_swc1, q_lg0, q_lg1, q_lent0, q_lent1, lset, lset2, q_lins0, q_lins1, q_ldel0, q_ldel1, q_ldel20, q_ldel21, q_lkeep0, q_lkeep1, q_memb0, q_memb1, cat2, Nat.reduceBEq, decide_true, decide_false, decide_eq_true_eq, cond_true, cond_false, Bool.and_true, Bool.and_false, Bool.true_and, Bool.false_and, f_iadd, f_isub, f_imul, f_ishl, f_ishr, f_iushr, f_iand, f_ior, f_idiv, f_irem, f_ineg, f_i2b, f_i2s, f_ladd, f_lmul, c_eq, c_ne, c_lt, c_ge, c_gt, c_le, cc_eq, cc_ne, cc_lt, cc_ge, cc_gt, cc_le, rfo, aof, csum, Value.category, List.take, List.drop, List.reverse, List.reverseAux, List.map, List.sum_cons, List.sum_nil, List.cons_append, List.nil_append, Option.toList, List.mem_cons, List.not_mem_nil, List.length_cons, List.length_nil, reduceIte, Nat.reduceEqDiff, Nat.reduceAdd, Nat.reduceLeDiff, Nat.reduceLT, a_day, Nat.zero_ne_one, Nat.one_ne_zero, false_and, and_false, true_and, and_true, or_false, false_or, or_true, true_or, not_true_eq_false, not_false_eq_true, Nat.zero_add, Nat.add_zero, Nat.le_refl, Nat.lt_irrefl, Nat.zero_lt_succ, Nat.zero_le, forall_const, List.cons.injEq, Value.int.injEq, Value.ref.injEq, Value.long.injEq, and_assoc, exists_and_left, exists_eq_left']
      try simp only [forall_eq]
      have c16 : (16 : Int32) = nI 16 := rfl
      rw [c16]
      refine ⟨fun z => ?_, fun z => ⟨o1, ?_⟩⟩
      · have hkk : k = 16 := by
          have := (nI_leI (a := 16) (b := k) (by omega) (by omega)).mp z
          omega
        subst hkk
        exact h M1 hs
      · have hlt : k < 16 := by
          rcases Nat.lt_or_ge k 16 with w | w
          · exact w
          · exact absurd (nI_le w (by omega)) z
        have fin : ∀ x, x = tgt (xc M) (dv M q) (k + 1) → K8 [(0, .ref q), (1, .int x), (2, .int (nI k + 1))] [] M1 := by
          intro x hx
          subst hx
          refine hK8 (16 - (k + 1)) _ _ _ (by omega) ?_
          rw [hI8]
          exact ⟨k + 1, by rw [nI_1], rfl, by omega, rfl, hs, m8, m3⟩
        rw [m8, shr_bit hE hlt, hEb k hlt]
        refine ⟨fun y => ?_, fun y => ?_⟩
        · subst hB31
          unfold BX0_tightest_31
          simp only [T_X0_weigh, i_const, i_lconst, i_iload, i_aload, i_lload, i_istore, i_astore, i_lstore, i_iinc, i_bin, i_div, i_un, i_i2l, i_l2i, i_lbin, i_lcmp, i_if, i_icmp, i_dup, i_dup_x1, i_dup2, i_pop, i_geti, i_getr, i_getd, i_puti, i_putz, i_putd, i_iald, i_bald, i_aald, i_iast, i_bast, i_alen, i_keep, i_ret, i_retz, i_reta, i_retl, i_retv, i_callv, i_callk, i_calls, i_mm, i_copy, i_under, i_undld, i_ldcs, i_sw, q_swc0, q_swc1, q_lg0, q_lg1, q_lent0, q_lent1, lset, lset2, q_lins0, q_lins1, q_ldel0, q_ldel1, q_ldel20, q_ldel21, q_lkeep0, q_lkeep1, q_memb0, q_memb1, cat2, Nat.reduceBEq, decide_true, decide_false, decide_eq_true_eq, cond_true, cond_false, Bool.and_true, Bool.and_false, Bool.true_and, Bool.false_and, f_iadd, f_isub, f_imul, f_ishl, f_ishr, f_iushr, f_iand, f_ior, f_idiv, f_irem, f_ineg, f_i2b, f_i2s, f_ladd, f_lmul, c_eq, c_ne, c_lt, c_ge, c_gt, c_le, cc_eq, cc_ne, cc_lt, cc_ge, cc_gt, cc_le, rfo, aof, csum, Value.category, List.take, List.drop, List.reverse, List.reverseAux, List.map, List.sum_cons, List.sum_nil, List.cons_append, List.nil_append, Option.toList, List.mem_cons, List.not_mem_nil, List.length_cons, List.length_nil, reduceIte, Nat.reduceEqDiff, Nat.reduceAdd, Nat.reduceLeDiff, Nat.reduceLT, a_day, Nat.zero_ne_one, Nat.one_ne_zero, false_and, and_false, true_and, and_true, or_false, false_or, or_true, true_or, not_true_eq_false, not_false_eq_true, Nat.zero_add, Nat.add_zero, Nat.le_refl, Nat.lt_irrefl, Nat.zero_lt_succ, Nat.zero_le, forall_const, List.cons.injEq, Value.int.injEq, Value.ref.injEq, Value.long.injEq, and_assoc, exists_and_left, exists_eq_left']
          try simp only [forall_eq]
          refine ⟨fin _ ?_, fun z => z.elim⟩
          cases hb : edg (dv M q) (dn (dv M q)) k with
          | true => rw [hb] at y; exact absurd rfl y
          | false => simp [tgt, hb]
        · subst hB31
          unfold BX0_tightest_31
          simp only [T_X0_weigh, i_const, i_lconst, i_iload, i_aload, i_lload, i_istore, i_astore, i_lstore, i_iinc, i_bin, i_div, i_un, i_i2l, i_l2i, i_lbin, i_lcmp, i_if, i_icmp, i_dup, i_dup_x1, i_dup2, i_pop, i_geti, i_getr, i_getd, i_puti, i_putz, i_putd, i_iald, i_bald, i_aald, i_iast, i_bast, i_alen, i_keep, i_ret, i_retz, i_reta, i_retl, i_retv, i_callv, i_callk, i_calls, i_mm, i_copy, i_under, i_undld, i_ldcs, i_sw, q_swc0, q_swc1, q_lg0, q_lg1, q_lent0, q_lent1, lset, lset2, q_lins0, q_lins1, q_ldel0, q_ldel1, q_ldel20, q_ldel21, q_lkeep0, q_lkeep1, q_memb0, q_memb1, cat2, Nat.reduceBEq, decide_true, decide_false, decide_eq_true_eq, cond_true, cond_false, Bool.and_true, Bool.and_false, Bool.true_and, Bool.false_and, f_iadd, f_isub, f_imul, f_ishl, f_ishr, f_iushr, f_iand, f_ior, f_idiv, f_irem, f_ineg, f_i2b, f_i2s, f_ladd, f_lmul, c_eq, c_ne, c_lt, c_ge, c_gt, c_le, cc_eq, cc_ne, cc_lt, cc_ge, cc_gt, cc_le, rfo, aof, csum, Value.category, List.take, List.drop, List.reverse, List.reverseAux, List.map, List.sum_cons, List.sum_nil, List.cons_append, List.nil_append, Option.toList, List.mem_cons, List.not_mem_nil, List.length_cons, List.length_nil, reduceIte, Nat.reduceEqDiff, Nat.reduceAdd, Nat.reduceLeDiff, Nat.reduceLT, a_day, Nat.zero_ne_one, Nat.one_ne_zero, false_and, and_false, true_and, and_true, or_false, false_or, or_true, true_or, not_true_eq_false, not_false_eq_true, Nat.zero_add, Nat.add_zero, Nat.le_refl, Nat.lt_irrefl, Nat.zero_lt_succ, Nat.zero_le, forall_const, List.cons.injEq, Value.int.injEq, Value.ref.injEq, Value.long.injEq, and_assoc, exists_and_left, exists_eq_left']
          try simp only [forall_eq]
          have hb : edg (dv M q) (dn (dv M q)) k = true := by
            cases hb : edg (dv M q) (dn (dv M q)) k with
            | true => rfl
            | false => rw [hb] at y; exact absurd (by decide) y
          refine ⟨fun z => absurd z (by decide), fun _ => ⟨fun e => fin _ ?_, fun e => ?_⟩⟩
          · simp only [tgt, hb, e, true_or, and_self, if_true]
          · rcases tgt_ok (xc M) (dv M q) k with e2 | ⟨b, hb2, e2⟩
            · exact absurd e2 e
            · have hcl : (tgt (xc M) (dv M q) k).toNatClampNeg = b := by rw [e2, nI_clamp (by omega)]
              refine ⟨o1, o4, vp_in_nI (by omega) (by omega), o1, o4, by rw [e2]; exact vp_in_nI (by omega) (by omega), ?_⟩
              rw [hcl, nI_clamp (by omega), m3 b (by omega), m3 k hlt]
              refine ⟨fun z => fin _ ?_, fun z => fin _ ?_⟩
              · simp only [tgt, hb, true_and]
                rw [if_neg]
                rw [hcl]
                exact fun w => w.elim e (fun w => i_not_lt.mpr z w)
              · simp only [tgt, hb, true_and]
                rw [if_pos]
                rw [hcl]
                exact Or.inr (i_not_le.mp z)
    refine s_of (fun lv st M0 hs => ?_) (WX0_tightest_0 C (t_X0_weigh hg) (by decide) L8)
    obtain ⟨rfl, rfl, rfl⟩ := hs
    unfold BX0_tightest_0
    generalize hB4 : BX0_tightest_4 g Q (T_X0_weigh g) E8 = B4
    simp only [T_X0_weigh, i_const, i_lconst, i_iload, i_aload, i_lload, i_istore, i_astore, i_lstore, i_iinc, i_bin, i_div, i_un, i_i2l, i_l2i, i_lbin, i_lcmp, i_if, i_icmp, i_dup, i_dup_x1, i_dup2, i_pop, i_geti, i_getr, i_getd, i_puti, i_putz, i_putd, i_iald, i_bald, i_aald, i_iast, i_bast, i_alen, i_keep, i_ret, i_retz, i_reta, i_retl, i_retv, i_callv, i_callk, i_calls, i_mm, i_copy, i_under, i_undld, i_ldcs, i_sw, q_swc0, q_swc1, q_lg0, q_lg1, q_lent0, q_lent1, lset, lset2, q_lins0, q_lins1, q_ldel0, q_ldel1, q_ldel20, q_ldel21, q_lkeep0, q_lkeep1, q_memb0, q_memb1, cat2, Nat.reduceBEq, decide_true, decide_false, decide_eq_true_eq, cond_true, cond_false, Bool.and_true, Bool.and_false, Bool.true_and, Bool.false_and, f_iadd, f_isub, f_imul, f_ishl, f_ishr, f_iushr, f_iand, f_ior, f_idiv, f_irem, f_ineg, f_i2b, f_i2s, f_ladd, f_lmul, c_eq, c_ne, c_lt, c_ge, c_gt, c_le, cc_eq, cc_ne, cc_lt, cc_ge, cc_gt, cc_le, rfo, aof, csum, Value.category, List.take, List.drop, List.reverse, List.reverseAux, List.map, List.sum_cons, List.sum_nil, List.cons_append, List.nil_append, Option.toList, List.mem_cons, List.not_mem_nil, List.length_cons, List.length_nil, reduceIte, Nat.reduceEqDiff, Nat.reduceAdd, Nat.reduceLeDiff, Nat.reduceLT, a_day, Nat.zero_ne_one, Nat.one_ne_zero, false_and, and_false, true_and, and_true, or_false, false_or, or_true, true_or, not_true_eq_false, not_false_eq_true, Nat.zero_add, Nat.add_zero, Nat.le_refl, Nat.lt_irrefl, Nat.zero_lt_succ, Nat.zero_le, forall_const, List.cons.injEq, Value.int.injEq, Value.ref.injEq, Value.long.injEq, and_assoc, exists_and_left, exists_eq_left']
    try simp only [forall_eq]
    refine ⟨og, ok, hq, fun M1 hs1 m7 m3 m8 => ?_⟩
    subst hB4
    unfold BX0_tightest_4
    simp only [T_X0_weigh, i_const, i_lconst, i_iload, i_aload, i_lload, i_istore, i_astore, i_lstore, i_iinc, i_bin, i_div, i_un, i_i2l, i_l2i, i_lbin, i_lcmp, i_if, i_icmp, i_dup, i_dup_x1, i_dup2, i_pop, i_geti, i_getr, i_getd, i_puti, i_putz, i_putd, i_iald, i_bald, i_aald, i_iast, i_bast, i_alen, i_keep, i_ret, i_retz, i_reta, i_retl, i_retv, i_callv, i_callk, i_calls, i_mm, i_copy, i_under, i_undld, i_ldcs, i_sw, q_swc0, q_swc1, q_lg0, q_lg1, q_lent0, q_lent1, lset, lset2, q_lins0, q_lins1, q_ldel0, q_ldel1, q_ldel20, q_ldel21, q_lkeep0, q_lkeep1, q_memb0, q_memb1, cat2, Nat.reduceBEq, decide_true, decide_false, decide_eq_true_eq, cond_true, cond_false, Bool.and_true, Bool.and_false, Bool.true_and, Bool.false_and, f_iadd, f_isub, f_imul, f_ishl, f_ishr, f_iushr, f_iand, f_ior, f_idiv, f_irem, f_ineg, f_i2b, f_i2s, f_ladd, f_lmul, c_eq, c_ne, c_lt, c_ge, c_gt, c_le, cc_eq, cc_ne, cc_lt, cc_ge, cc_gt, cc_le, rfo, aof, csum, Value.category, List.take, List.drop, List.reverse, List.reverseAux, List.map, List.sum_cons, List.sum_nil, List.cons_append, List.nil_append, Option.toList, List.mem_cons, List.not_mem_nil, List.length_cons, List.length_nil, reduceIte, Nat.reduceEqDiff, Nat.reduceAdd, Nat.reduceLeDiff, Nat.reduceLT, a_day, Nat.zero_ne_one, Nat.one_ne_zero, false_and, and_false, true_and, and_true, or_false, false_or, or_true, true_or, not_true_eq_false, not_false_eq_true, Nat.zero_add, Nat.add_zero, Nat.le_refl, Nat.lt_irrefl, Nat.zero_lt_succ, Nat.zero_le, forall_const, List.cons.injEq, Value.int.injEq, Value.ref.injEq, Value.long.injEq, and_assoc, exists_and_left, exists_eq_left']
    try simp only [forall_eq]
    refine iE8 (16 - 0) _ _ _ ?_
    rw [hI8]
    exact ⟨0, rfl, rfl, by omega, rfl, hs1, m8, m3⟩
def drz (seed : Int32) : Nat → Int32
  | 0 => seed
  | h + 1 => drz seed h * 1103515245 + 12345
def drj (seed : Int32) (h : Nat) : Int32 := (fun x : Int32 => x - x / 41 * 41 - 20) (((drz seed (h + 1)).toUInt32 >>> ((9 : Int32).toUInt32 &&& Int32.toUInt32 31)).toInt32)
def drwD (D : DV) (seed : Int32) : DV := fun f i => if f = 0 ∧ i < 16 then drj seed i else D f i
def T_X0_draw (g : WG) (as : List Value) (M : MM) (Q : Option Value → MM → Prop) : Prop := ∃ (q : Nat) (seed : Int32), as = [.ref q, .int seed] ∧ isD q ∧ dn (dv M q) ≤ 7 ∧ ∀ M', Sm (fun a _ => a = q + 1) M M' → dv M' q = drwD (dv M q) seed → Q none M'
set_option maxRecDepth 100000 in
set_option maxHeartbeats 1000000 in
theorem t_X0_draw {l : Launch} {g : WG} (hg : Full g) : Ct l g yX0_draw cX0_draw 4 ((Option.none : Option FieldType)) 1 (T_X0_draw g) := by
  refine Ct.of (by decide) (fun as M Q h => ?_) (fun p e s m args below meth c as M Q h C => ?_)
  · obtain ⟨q, seed, rfl, hq, hn, h⟩ := h; exact ⟨by simp, by simp [Value.category]⟩
  · obtain ⟨q, seed, rfl, hq, hn, h⟩ := h
    obtain ⟨o1, o2, o3, o4, o5, ⟨l1, l2, l3, l4⟩, og, ok⟩ := day_ok hg hq
    obtain ⟨I4, hI4⟩ : ∃ I : Nat → PP, I = (fun n lv st M' => ∃ k, lv = [(0, .ref q), (2, .int (drz seed k)), (3, .int (nI k))] ∧ st = [] ∧ k ≤ 16 ∧ n = 16 - k ∧ Sm (fun a _ => a = q + 1) M M' ∧ (∀ j, j < k → M' (q + 1) j = drj seed j)) := ⟨_, rfl⟩
    obtain ⟨E4, hE4⟩ : ∃ E : PP, E = (fun lv st M => ∃ n, I4 n lv st M) := ⟨_, rfl⟩
    have iE4 : ∀ n lv st M, I4 n lv st M → E4 lv st M := fun n lv st M h => by rw [hE4]; exact ⟨n, h⟩
    have L4 : Sj p l e 1 s m args below meth c 4 g (MQ below (cQc g Q) args s 0 0 (gA g)) 4 E4 := by
      rw [hE4]
      refine s_ex (s_loop I4 (fun K4 k4 => WX0_draw_4 C k4) ?_)
      intro n lv st M1 K4 hK4 hI; rw [hI4] at hI; obtain ⟨k, rfl, rfl, hk, rfl, hs, hv⟩ := hI
      unfold BX0_draw_4
      simp only [i_const, i_lconst, i_iload, i_aload, i_lload, i_istore, i_astore, i_lstore, i_iinc, i_bin, i_div, i_un, i_i2l, i_l2i, i_lbin, i_lcmp, i_if, i_icmp, i_dup, i_dup_x1, i_dup2, i_pop, i_geti, i_getr, i_getd, i_puti, i_putz, i_putd, i_iald, i_bald, i_aald, i_iast, i_bast, i_alen, i_keep, i_ret, i_retz, i_reta, i_retl, i_retv, i_callv, i_callk, i_calls, i_mm, i_copy, i_under, i_undld, i_ldcs, i_sw, q_swc0, q_swc1, q_lg0, q_lg1, q_lent0, q_lent1, lset, lset2, q_lins0, q_lins1, q_ldel0, q_ldel1, q_ldel20, q_ldel21, q_lkeep0, q_lkeep1, q_memb0, q_memb1, cat2, Nat.reduceBEq, decide_true, decide_false, decide_eq_true_eq, cond_true, cond_false, Bool.and_true, Bool.and_false, Bool.true_and, Bool.false_and, f_iadd, f_isub, f_imul, f_ishl, f_ishr, f_iushr, f_iand, f_ior, f_idiv, f_irem, f_ineg, f_i2b, f_i2s, f_ladd, f_lmul, c_eq, c_ne, c_lt, c_ge, c_gt, c_le, cc_eq, cc_ne, cc_lt, cc_ge, cc_gt, cc_le, rfo, aof, csum, Value.category, List.take, List.drop, List.reverse, List.reverseAux, List.map, List.sum_cons, List.sum_nil, List.cons_append, List.nil_append, Option.toList, List.mem_cons, List.not_mem_nil, List.length_cons, List.length_nil, reduceIte, Nat.reduceEqDiff, Nat.reduceAdd, Nat.reduceLeDiff, Nat.reduceLT, a_day, Nat.zero_ne_one, Nat.one_ne_zero, false_and, and_false, true_and, and_true, or_false, false_or, or_true, true_or, not_true_eq_false, not_false_eq_true, Nat.zero_add, Nat.add_zero, Nat.le_refl, Nat.lt_irrefl, Nat.zero_lt_succ, Nat.zero_le, forall_const, List.cons.injEq, Value.int.injEq, Value.ref.injEq, Value.long.injEq, and_assoc, exists_and_left, exists_eq_left']
      try simp only [forall_eq]
      have c16 : (16 : Int32) = nI 16 := rfl
      rw [c16]
      refine ⟨fun z => ?_, fun z => ?_⟩
      · have hkk : k = 16 := by
          have := (nI_leI (a := 16) (b := k) (by omega) (by omega)).mp z
          omega
        subst hkk
        refine h M1 hs ?_
        have e0 : ∀ j, M1 q j = M q j := fun j => hs q j (by show ¬ q = q + 1; omega)
        have e5 : ∀ s j, M1 (q + 5 + s) j = M (q + 5 + s) j := fun s j => hs _ j (by show ¬ q + 5 + s = q + 1; omega)
        funext f i
        simp only [drwD, dv, e0, e5]
        by_cases hf : f = 0
        · subst hf
          by_cases hi : i < 16
          · simp [hi, hv i hi]
          · simp [hi]
        · simp [hf]
      · have hlt : k < 16 := by
          rcases Nat.lt_or_ge k 16 with w | w
          · exact w
          · exact absurd (nI_le w (by omega)) z
        refine ⟨o1, by decide, o2, vp_in_nI (by omega) (by omega), ?_⟩
        refine hK4 (16 - (k + 1)) _ _ _ (by omega) ?_
        rw [hI4, nI_clamp (by omega)]
        refine ⟨k + 1, by rw [nI_1]; rfl, rfl, by omega, rfl, hs.set _ rfl, fun j hj => ?_⟩
        rw [mset_app]
        by_cases e : j = k
        · subst e; simp only [if_true]; rfl
        · simp only [if_true, e, if_false]; exact hv j (by omega)
      
    refine s_of (fun lv st M0 hs => ?_) (WX0_draw_0 C L4)
    obtain ⟨rfl, rfl, rfl⟩ := hs
    unfold BX0_draw_0
    simp only [i_const, i_lconst, i_iload, i_aload, i_lload, i_istore, i_astore, i_lstore, i_iinc, i_bin, i_div, i_un, i_i2l, i_l2i, i_lbin, i_lcmp, i_if, i_icmp, i_dup, i_dup_x1, i_dup2, i_pop, i_geti, i_getr, i_getd, i_puti, i_putz, i_putd, i_iald, i_bald, i_aald, i_iast, i_bast, i_alen, i_keep, i_ret, i_retz, i_reta, i_retl, i_retv, i_callv, i_callk, i_calls, i_mm, i_copy, i_under, i_undld, i_ldcs, i_sw, q_swc0, q_swc1, q_lg0, q_lg1, q_lent0, q_lent1, lset, lset2, q_lins0, q_lins1, q_ldel0, q_ldel1, q_ldel20, q_ldel21, q_lkeep0, q_lkeep1, q_memb0, q_memb1, cat2, Nat.reduceBEq, decide_true, decide_false, decide_eq_true_eq, cond_true, cond_false, Bool.and_true, Bool.and_false, Bool.true_and, Bool.false_and, f_iadd, f_isub, f_imul, f_ishl, f_ishr, f_iushr, f_iand, f_ior, f_idiv, f_irem, f_ineg, f_i2b, f_i2s, f_ladd, f_lmul, c_eq, c_ne, c_lt, c_ge, c_gt, c_le, cc_eq, cc_ne, cc_lt, cc_ge, cc_gt, cc_le, rfo, aof, csum, Value.category, List.take, List.drop, List.reverse, List.reverseAux, List.map, List.sum_cons, List.sum_nil, List.cons_append, List.nil_append, Option.toList, List.mem_cons, List.not_mem_nil, List.length_cons, List.length_nil, reduceIte, Nat.reduceEqDiff, Nat.reduceAdd, Nat.reduceLeDiff, Nat.reduceLT, a_day, Nat.zero_ne_one, Nat.one_ne_zero, false_and, and_false, true_and, and_true, or_false, false_or, or_true, true_or, not_true_eq_false, not_false_eq_true, Nat.zero_add, Nat.add_zero, Nat.le_refl, Nat.lt_irrefl, Nat.zero_lt_succ, Nat.zero_le, forall_const, List.cons.injEq, Value.int.injEq, Value.ref.injEq, Value.long.injEq, and_assoc, exists_and_left, exists_eq_left']
    try simp only [forall_eq]
    refine iE4 (16 - 0) _ _ _ ?_
    rw [hI4]
    exact ⟨0, rfl, rfl, by omega, rfl, Sm.rf, fun j hj => absurd hj (by omega)⟩
