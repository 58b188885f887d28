/-! ===== the class: set, seam, hours, pass, force, feed ===== -/
theorem dv_setj {M : MM} {q k : Nat} {x : Int32} (hk : k < 16) : dv (mset M (q + 1) k x) q = upF (dv M q) 0 k x := by
  funext f i
  have a1 : ¬ q = q + 1 := by omega
  have a2 : ∀ i, ¬ q + 5 + i = q + 1 := by intro i; omega
  simp only [dv, upF, mset_app, a1, a2, if_false, if_true]
  by_cases h0 : f = 0
  · subst h0
    by_cases h1 : i = k
    · subst h1; simp [hk]
    · simp [h1]
  · simp [h0]
def T_X5_set (g : WG) (as : List Value) (M : MM) (Q : Option Value → MM → Prop) : Prop := ∃ w o v, as = [.ref 0, .int w, .int o, .int v] ∧ okD M 40 ∧ (¬ (isOfN (dn (dv M 40)) w o ∧ isFitA w v) → Q (some (.int (-1000))) M) ∧ (isOfN (dn (dv M 40)) w o → isFitA w v → ∀ M', Sm (XD 40) M M' → dv M' 40 = setD (dv M 40) w o v → Q (some (.int (getA (dv M 40) w o))) M')
set_option maxRecDepth 100000 in
set_option maxHeartbeats 2000000 in
theorem t_X5_set {l : Launch} {g : WG} (hg : Full g) : Ct l g yX5_set cX5_set 5 ((Option.some FieldType.int)) 7 (T_X5_set g) := by
  refine Ct.of (by decide) (fun as M Q h => ?_) (fun p e s m args below meth c as M Q h C => ?_)
  · obtain ⟨w, o, v, rfl, ho, hb, h⟩ := h; exact ⟨by simp, by simp [Value.category]⟩
  · obtain ⟨w, o, v, rfl, ho, hb, h⟩ := h
    have hn := ho.n
    have hmany := ho.many
    refine s_of (fun lv st M0 hs => ?_) (WX5_set_0 C (t_X5_isFact hg) (by decide) (t_X5_mayBecome hg) (by decide) (t_X5_told hg) (by decide) (t_X1_alter hg) (by decide))
    obtain ⟨rfl, rfl, rfl⟩ := hs
    unfold BX5_set_0
    generalize hB11 : BX5_set_11 g Q (T_X5_isFact g) (T_X5_mayBecome g) (T_X5_told g) (T_X1_alter g) = B11
    simp only [T_X5_isFact, T_X5_mayBecome, T_X5_told, T_X1_alter, i_const, i_lconst, i_iload, i_aload, i_lload, i_istore, i_astore, i_lstore, i_iinc, i_bin, i_div, i_un, i_i2l, i_l2i, i_lbin, i_lcmp, i_if, i_icmp, i_dup, i_dup_x1, i_dup2, i_pop, i_geti, i_getr, i_getd, i_puti, i_putz, i_putd, i_iald, i_bald, i_aald, i_iast, i_bast, i_alen, i_keep, i_ret, i_retz, i_reta, i_retl, i_retv, i_callv, i_callk, i_calls, i_mm, i_copy, i_under, i_undld, i_ldcs, i_sw, q_swc0, q_swc1, q_lg0, q_lg1, q_lent0, q_lent1, lset, lset2, q_lins0, q_lins1, q_ldel0, q_ldel1, q_ldel20, q_ldel21, q_lkeep0, q_lkeep1, q_memb0, q_memb1, cat2, Nat.reduceBEq, decide_true, decide_false, decide_eq_true_eq, cond_true, cond_false, Bool.and_true, Bool.and_false, Bool.true_and, Bool.false_and, f_iadd, f_isub, f_imul, f_ishl, f_ishr, f_iushr, f_iand, f_ior, f_idiv, f_irem, f_ineg, f_i2b, f_i2s, f_ladd, f_lmul, c_eq, c_ne, c_lt, c_ge, c_gt, c_le, cc_eq, cc_ne, cc_lt, cc_ge, cc_gt, cc_le, rfo, aof, csum, Value.category, List.take, List.drop, List.reverse, List.reverseAux, List.map, List.sum_cons, List.sum_nil, List.cons_append, List.nil_append, Option.toList, List.mem_cons, List.not_mem_nil, List.length_cons, List.length_nil, reduceIte, Nat.reduceEqDiff, Nat.reduceAdd, Nat.reduceLeDiff, Nat.reduceLT, a_day, Nat.zero_ne_one, Nat.one_ne_zero, false_and, and_false, true_and, and_true, or_false, false_or, or_true, true_or, not_true_eq_false, not_false_eq_true, Nat.zero_add, Nat.add_zero, Nat.le_refl, Nat.lt_irrefl, Nat.zero_lt_succ, Nat.zero_le, forall_const, List.cons.injEq, Value.int.injEq, Value.ref.injEq, Value.long.injEq, and_assoc, exists_and_left, exists_eq_left']
    try simp only [forall_eq]
    refine ⟨fun y => hb (fun q => i_not_lt.mpr (fact_of.mp q.1).2 y), fun y4 => ⟨(c_0 hg).1, (c_0 hg).2.1, dn (dv M0 40), by omega, hmany, fun c => ?_, fun c => ?_⟩⟩
    · have c : factB (dn (dv M0 40)) w o := by unfold factB; simpa only [and_assoc] using c
      have ci : isOfN (dn (dv M0 40)) w o := fact_of.mpr ⟨c, i_not_lt.mp y4⟩
      subst hB11
      unfold BX5_set_11
      generalize hB19 : BX5_set_19 g Q (T_X5_isFact g) (T_X5_mayBecome g) (T_X5_told g) (T_X1_alter g) = B19
      simp only [T_X5_isFact, T_X5_mayBecome, T_X5_told, T_X1_alter, i_const, i_lconst, i_iload, i_aload, i_lload, i_istore, i_astore, i_lstore, i_iinc, i_bin, i_div, i_un, i_i2l, i_l2i, i_lbin, i_lcmp, i_if, i_icmp, i_dup, i_dup_x1, i_dup2, i_pop, i_geti, i_getr, i_getd, i_puti, i_putz, i_putd, i_iald, i_bald, i_aald, i_iast, i_bast, i_alen, i_keep, i_ret, i_retz, i_reta, i_retl, i_retv, i_callv, i_callk, i_calls, i_mm, i_copy, i_under, i_undld, i_ldcs, i_sw, q_swc0, q_swc1, q_lg0, q_lg1, q_lent0, q_lent1, lset, lset2, q_lins0, q_lins1, q_ldel0, q_ldel1, q_ldel20, q_ldel21, q_lkeep0, q_lkeep1, q_memb0, q_memb1, cat2, Nat.reduceBEq, decide_true, decide_false, decide_eq_true_eq, cond_true, cond_false, Bool.and_true, Bool.and_false, Bool.true_and, Bool.false_and, f_iadd, f_isub, f_imul, f_ishl, f_ishr, f_iushr, f_iand, f_ior, f_idiv, f_irem, f_ineg, f_i2b, f_i2s, f_ladd, f_lmul, c_eq, c_ne, c_lt, c_ge, c_gt, c_le, cc_eq, cc_ne, cc_lt, cc_ge, cc_gt, cc_le, rfo, aof, csum, Value.category, List.take, List.drop, List.reverse, List.reverseAux, List.map, List.sum_cons, List.sum_nil, List.cons_append, List.nil_append, Option.toList, List.mem_cons, List.not_mem_nil, List.length_cons, List.length_nil, reduceIte, Nat.reduceEqDiff, Nat.reduceAdd, Nat.reduceLeDiff, Nat.reduceLT, a_day, Nat.zero_ne_one, Nat.one_ne_zero, false_and, and_false, true_and, and_true, or_false, false_or, or_true, true_or, not_true_eq_false, not_false_eq_true, Nat.zero_add, Nat.add_zero, Nat.le_refl, Nat.lt_irrefl, Nat.zero_lt_succ, Nat.zero_le, forall_const, List.cons.injEq, Value.int.injEq, Value.ref.injEq, Value.long.injEq, and_assoc, exists_and_left, exists_eq_left']
      try simp only [forall_eq]
      refine ⟨fun z => absurd z (by decide), fun _ => ⟨fun c2 => ?_, fun c2 => ?_⟩⟩
      · subst hB19
        unfold BX5_set_19
        generalize hB32 : BX5_set_32 g Q (T_X5_isFact g) (T_X5_mayBecome g) (T_X5_told g) (T_X1_alter g) = B32
        simp only [T_X5_isFact, T_X5_mayBecome, T_X5_told, T_X1_alter, i_const, i_lconst, i_iload, i_aload, i_lload, i_istore, i_astore, i_lstore, i_iinc, i_bin, i_div, i_un, i_i2l, i_l2i, i_lbin, i_lcmp, i_if, i_icmp, i_dup, i_dup_x1, i_dup2, i_pop, i_geti, i_getr, i_getd, i_puti, i_putz, i_putd, i_iald, i_bald, i_aald, i_iast, i_bast, i_alen, i_keep, i_ret, i_retz, i_reta, i_retl, i_retv, i_callv, i_callk, i_calls, i_mm, i_copy, i_under, i_undld, i_ldcs, i_sw, q_swc0, q_swc1, q_lg0, q_lg1, q_lent0, q_lent1, lset, lset2, q_lins0, q_lins1, q_ldel0, q_ldel1, q_ldel20, q_ldel21, q_lkeep0, q_lkeep1, q_memb0, q_memb1, cat2, Nat.reduceBEq, decide_true, decide_false, decide_eq_true_eq, cond_true, cond_false, Bool.and_true, Bool.and_false, Bool.true_and, Bool.false_and, f_iadd, f_isub, f_imul, f_ishl, f_ishr, f_iushr, f_iand, f_ior, f_idiv, f_irem, f_ineg, f_i2b, f_i2s, f_ladd, f_lmul, c_eq, c_ne, c_lt, c_ge, c_gt, c_le, cc_eq, cc_ne, cc_lt, cc_ge, cc_gt, cc_le, rfo, aof, csum, Value.category, List.take, List.drop, List.reverse, List.reverseAux, List.map, List.sum_cons, List.sum_nil, List.cons_append, List.nil_append, Option.toList, List.mem_cons, List.not_mem_nil, List.length_cons, List.length_nil, reduceIte, Nat.reduceEqDiff, Nat.reduceAdd, Nat.reduceLeDiff, Nat.reduceLT, a_day, Nat.zero_ne_one, Nat.one_ne_zero, false_and, and_false, true_and, and_true, or_false, false_or, or_true, true_or, not_true_eq_false, not_false_eq_true, Nat.zero_add, Nat.add_zero, Nat.le_refl, Nat.lt_irrefl, Nat.zero_lt_succ, Nat.zero_le, forall_const, List.cons.injEq, Value.int.injEq, Value.ref.injEq, Value.long.injEq, and_assoc, exists_and_left, exists_eq_left']
        try simp only [forall_eq]
        refine ⟨fun _ => ⟨(c_0 hg).1, (c_0 hg).2.1, ho, fun M1 hs1 => ?_⟩, fun z => absurd (by decide) z⟩
        have hd1 : dv M1 40 = dv M0 40 := dv_P hs1 D40 D40 hn
        have hs1D : Sm (XD 40) M0 M1 := hs1.mono fun a b q => XP_D q
        have h := h ci c2
        rw [told_get ci]
        obtain ⟨k, hk, ek⟩ := fact_k c
        unfold setD at h
        subst hB32
        unfold BX5_set_32
        simp only [T_X5_isFact, T_X5_mayBecome, T_X5_told, T_X1_alter, i_const, i_lconst, i_iload, i_aload, i_lload, i_istore, i_astore, i_lstore, i_iinc, i_bin, i_div, i_un, i_i2l, i_l2i, i_lbin, i_lcmp, i_if, i_icmp, i_dup, i_dup_x1, i_dup2, i_pop, i_geti, i_getr, i_getd, i_puti, i_putz, i_putd, i_iald, i_bald, i_aald, i_iast, i_bast, i_alen, i_keep, i_ret, i_retz, i_reta, i_retl, i_retv, i_callv, i_callk, i_calls, i_mm, i_copy, i_under, i_undld, i_ldcs, i_sw, q_swc0, q_swc1, q_lg0, q_lg1, q_lent0, q_lent1, lset, lset2, q_lins0, q_lins1, q_ldel0, q_ldel1, q_ldel20, q_ldel21, q_lkeep0, q_lkeep1, q_memb0, q_memb1, cat2, Nat.reduceBEq, decide_true, decide_false, decide_eq_true_eq, cond_true, cond_false, Bool.and_true, Bool.and_false, Bool.true_and, Bool.false_and, f_iadd, f_isub, f_imul, f_ishl, f_ishr, f_iushr, f_iand, f_ior, f_idiv, f_irem, f_ineg, f_i2b, f_i2s, f_ladd, f_lmul, c_eq, c_ne, c_lt, c_ge, c_gt, c_le, cc_eq, cc_ne, cc_lt, cc_ge, cc_gt, cc_le, rfo, aof, csum, Value.category, List.take, List.drop, List.reverse, List.reverseAux, List.map, List.sum_cons, List.sum_nil, List.cons_append, List.nil_append, Option.toList, List.mem_cons, List.not_mem_nil, List.length_cons, List.length_nil, reduceIte, Nat.reduceEqDiff, Nat.reduceAdd, Nat.reduceLeDiff, Nat.reduceLT, a_day, Nat.zero_ne_one, Nat.one_ne_zero, false_and, and_false, true_and, and_true, or_false, false_or, or_true, true_or, not_true_eq_false, not_false_eq_true, Nat.zero_add, Nat.add_zero, Nat.le_refl, Nat.lt_irrefl, Nat.zero_lt_succ, Nat.zero_le, forall_const, List.cons.injEq, Value.int.injEq, Value.ref.injEq, Value.long.injEq, and_assoc, exists_and_left, exists_eq_left']
        try simp only [forall_eq]
        have seamI : ¬ w = 0 → ¬ w = 1 → ∃ i, o = nI i ∧ i < dn (dv M0 40) := fun e0 e1 => by
          rcases ci with q | q | q
          · exact absurd q e0
          · exact absurd q.1 e1
          · obtain ⟨i, hi, e⟩ := nI_of (i_not_lt.mpr q.2.1)
            rw [e] at q
            exact ⟨i, e, (nI_ltI hi (by omega)).mp q.2.2⟩
        refine ⟨fun e0 => ⟨fun e1 => ?_, fun e1 => ?_⟩, fun e0 => ?_⟩
        · obtain ⟨i, rfl, hi⟩ := seamI e0 e1
          have so : okq g 1 (45 + i) := seam_ok (q := 40) hg D40 (by omega)
          have hi1 : i < dn (dv M1 40) := by rw [hd1]; exact hi
          rw [nI_clamp (by omega)] at h ⊢
          rw [if_neg e0, if_neg e1] at h
          have sx : ∀ j x, Sm (XD 40) M0 (mset M1 (45 + i) j x) := fun j x => hs1D.set _ (Or.inl (by omega))
          refine ⟨c_0 hg, c_40 hg, okR hg (by decide) (by decide) rfl, vp_in_nI (n := i) (N := 7) (by omega) (by decide), so.1, so.2.1, so, fun e2 => ?_, fun e3 => ?_, fun e2 e3 => ?_⟩
          · rw [if_pos e2] at h
            exact h _ (sx 1 v) (by rw [← hd1]; exact dv_set (q := 40) (j := 1) (by decide) hi1)
          · rw [if_neg (by rw [e3]; decide), if_pos e3] at h
            exact h _ (sx 4 v) (by rw [← hd1]; exact dv_set (q := 40) (j := 4) (by decide) hi1)
          · rw [if_neg e2, if_neg e3] at h
            have hv : b2i (v = 1) = v := by
              rcases c2 with q | q | q | q | q
              · exact absurd q.1 e0
              · exact absurd q.1 e1
              · exact absurd q.1 e2
              · exact absurd q.1 e3
              · rcases (ask_01 v).mp q.2.2.2.2 with r | r <;> rw [r] <;> rfl
            rw [hv]
            exact h _ (sx 5 v) (by rw [← hd1]; exact dv_set (q := 40) (j := 5) (by decide) hi1)
        · have e1 := Decidable.not_not.mp e1
          obtain ⟨i, rfl, hi⟩ : ∃ i, o = nI i ∧ i < 16 := by
            rcases ci with q | q | q
            · exact absurd q e0
            · obtain ⟨i, hi, e⟩ := nI_of (i_not_lt.mpr q.2.1)
              rw [e] at q
              exact ⟨i, e, by have := (nI_leI (b := 15) hi (by decide)).mp q.2.2; omega⟩
            · rw [e1] at q; exact absurd q.1.1 (by decide)
          rw [nI_clamp (by omega)] at h ⊢
          rw [if_neg e0, if_pos e1] at h
          exact ⟨c_0 hg, c_40 hg, okR hg (by decide) (by decide) rfl, vp_in_nI (n := i) (N := 16) hi (by decide), h _ (hs1D.set _ (Or.inl (by omega))) (by rw [← hd1]; exact dv_setj (q := 40) hi)⟩
        · have e0 := Decidable.not_not.mp e0
          rw [if_pos e0] at h
          exact ⟨c_0 hg, c_40 hg, h _ (hs1D.set _ (Or.inl (by omega))) (by rw [← hd1]; exact dv_set5)⟩
      · subst hB19
        unfold BX5_set_19
        generalize hB32 : BX5_set_32 g Q (T_X5_isFact g) (T_X5_mayBecome g) (T_X5_told g) (T_X1_alter g) = B32
        simp only [T_X5_isFact, T_X5_mayBecome, T_X5_told, T_X1_alter, i_const, i_lconst, i_iload, i_aload, i_lload, i_istore, i_astore, i_lstore, i_iinc, i_bin, i_div, i_un, i_i2l, i_l2i, i_lbin, i_lcmp, i_if, i_icmp, i_dup, i_dup_x1, i_dup2, i_pop, i_geti, i_getr, i_getd, i_puti, i_putz, i_putd, i_iald, i_bald, i_aald, i_iast, i_bast, i_alen, i_keep, i_ret, i_retz, i_reta, i_retl, i_retv, i_callv, i_callk, i_calls, i_mm, i_copy, i_under, i_undld, i_ldcs, i_sw, q_swc0, q_swc1, q_lg0, q_lg1, q_lent0, q_lent1, lset, lset2, q_lins0, q_lins1, q_ldel0, q_ldel1, q_ldel20, q_ldel21, q_lkeep0, q_lkeep1, q_memb0, q_memb1, cat2, Nat.reduceBEq, decide_true, decide_false, decide_eq_true_eq, cond_true, cond_false, Bool.and_true, Bool.and_false, Bool.true_and, Bool.false_and, f_iadd, f_isub, f_imul, f_ishl, f_ishr, f_iushr, f_iand, f_ior, f_idiv, f_irem, f_ineg, f_i2b, f_i2s, f_ladd, f_lmul, c_eq, c_ne, c_lt, c_ge, c_gt, c_le, cc_eq, cc_ne, cc_lt, cc_ge, cc_gt, cc_le, rfo, aof, csum, Value.category, List.take, List.drop, List.reverse, List.reverseAux, List.map, List.sum_cons, List.sum_nil, List.cons_append, List.nil_append, Option.toList, List.mem_cons, List.not_mem_nil, List.length_cons, List.length_nil, reduceIte, Nat.reduceEqDiff, Nat.reduceAdd, Nat.reduceLeDiff, Nat.reduceLT, a_day, Nat.zero_ne_one, Nat.one_ne_zero, false_and, and_false, true_and, and_true, or_false, false_or, or_true, true_or, not_true_eq_false, not_false_eq_true, Nat.zero_add, Nat.add_zero, Nat.le_refl, Nat.lt_irrefl, Nat.zero_lt_succ, Nat.zero_le, forall_const, List.cons.injEq, Value.int.injEq, Value.ref.injEq, Value.long.injEq, and_assoc, exists_and_left, exists_eq_left']
        try simp only [forall_eq]
        exact ⟨fun z => z.elim, hb (fun q => c2 q.2)⟩
    · have c : ¬ factB (dn (dv M0 40)) w o := fun q => c (by unfold factB at q; simpa only [and_assoc] using q)
      subst hB11
      unfold BX5_set_11
      generalize hB19 : BX5_set_19 g Q (T_X5_isFact g) (T_X5_mayBecome g) (T_X5_told g) (T_X1_alter g) = B19
      simp only [T_X5_isFact, T_X5_mayBecome, T_X5_told, T_X1_alter, i_const, i_lconst, i_iload, i_aload, i_lload, i_istore, i_astore, i_lstore, i_iinc, i_bin, i_div, i_un, i_i2l, i_l2i, i_lbin, i_lcmp, i_if, i_icmp, i_dup, i_dup_x1, i_dup2, i_pop, i_geti, i_getr, i_getd, i_puti, i_putz, i_putd, i_iald, i_bald, i_aald, i_iast, i_bast, i_alen, i_keep, i_ret, i_retz, i_reta, i_retl, i_retv, i_callv, i_callk, i_calls, i_mm, i_copy, i_under, i_undld, i_ldcs, i_sw, q_swc0, q_swc1, q_lg0, q_lg1, q_lent0, q_lent1, lset, lset2, q_lins0, q_lins1, q_ldel0, q_ldel1, q_ldel20, q_ldel21, q_lkeep0, q_lkeep1, q_memb0, q_memb1, cat2, Nat.reduceBEq, decide_true, decide_false, decide_eq_true_eq, cond_true, cond_false, Bool.and_true, Bool.and_false, Bool.true_and, Bool.false_and, f_iadd, f_isub, f_imul, f_ishl, f_ishr, f_iushr, f_iand, f_ior, f_idiv, f_irem, f_ineg, f_i2b, f_i2s, f_ladd, f_lmul, c_eq, c_ne, c_lt, c_ge, c_gt, c_le, cc_eq, cc_ne, cc_lt, cc_ge, cc_gt, cc_le, rfo, aof, csum, Value.category, List.take, List.drop, List.reverse, List.reverseAux, List.map, List.sum_cons, List.sum_nil, List.cons_append, List.nil_append, Option.toList, List.mem_cons, List.not_mem_nil, List.length_cons, List.length_nil, reduceIte, Nat.reduceEqDiff, Nat.reduceAdd, Nat.reduceLeDiff, Nat.reduceLT, a_day, Nat.zero_ne_one, Nat.one_ne_zero, false_and, and_false, true_and, and_true, or_false, false_or, or_true, true_or, not_true_eq_false, not_false_eq_true, Nat.zero_add, Nat.add_zero, Nat.le_refl, Nat.lt_irrefl, Nat.zero_lt_succ, Nat.zero_le, forall_const, List.cons.injEq, Value.int.injEq, Value.ref.injEq, Value.long.injEq, and_assoc, exists_and_left, exists_eq_left']
      try simp only [forall_eq]
      exact ⟨hb (fun q => c (fact_of.mp q.1).1), fun z => z.elim⟩
def T_X5_seam (g : WG) (as : List Value) (M : MM) (Q : Option Value → MM → Prop) : Prop := ∃ k n e, as = [.ref 0, .int k, .int n, .int e] ∧ okD M 40 ∧ dn (dv M 40) ≤ 6 ∧ (¬ seamOK k n e → Q (some (.int (-2))) M) ∧ (seamOK k n e → dn (dv M 40) = 6 → Q (some (.int (-4))) M) ∧ (seamOK k n e → dn (dv M 40) < 6 → ∀ M', Sm (XD 40) M M' → dv M' 40 = addD (dv M 40) k n (e / 100) (e - e / 100 * 100) → Q (some (.int (nI (dn (dv M 40))))) M')
set_option maxRecDepth 100000 in
set_option maxHeartbeats 2000000 in
theorem t_X5_seam {l : Launch} {g : WG} (hg : Full g) : Ct l g yX5_seam cX5_seam 4 ((Option.some FieldType.int)) 3 (T_X5_seam g) := by
  refine Ct.of (by decide) (fun as M Q h => ?_) (fun p e s m args below meth c as M Q h C => ?_)
  · obtain ⟨k, nu, ee, rfl, ho, hn6, hb, hf, h⟩ := h; exact ⟨by simp, by simp [Value.category]⟩
  · obtain ⟨k, nu, ee, rfl, ho, hn6, hb, hf, h⟩ := h
    have hmany := ho.many
    refine s_of (fun lv st M0 hs => ?_) (WX5_seam_0 C (t_X5_isKind hg) (by decide) (t_X5_isNumber hg) (by decide) (t_X5_areEnds hg) (by decide) (t_X0_add hg) (by decide))
    obtain ⟨rfl, rfl, rfl⟩ := hs
    unfold BX5_seam_0
    generalize hB4 : BX5_seam_4 g Q (T_X5_isKind g) (T_X5_isNumber g) (T_X5_areEnds g) (T_X0_add g) = B4
    simp only [T_X5_isKind, T_X5_isNumber, T_X5_areEnds, T_X0_add, i_const, i_lconst, i_iload, i_aload, i_lload, i_istore, i_astore, i_lstore, i_iinc, i_bin, i_div, i_un, i_i2l, i_l2i, i_lbin, i_lcmp, i_if, i_icmp, i_dup, i_dup_x1, i_dup2, i_pop, i_geti, i_getr, i_getd, i_puti, i_putz, i_putd, i_iald, i_bald, i_aald, i_iast, i_bast, i_alen, i_keep, i_ret, i_retz, i_reta, i_retl, i_retv, i_callv, i_callk, i_calls, i_mm, i_copy, i_under, i_undld, i_ldcs, i_sw, q_swc0, q_swc1, q_lg0, q_lg1, q_lent0, q_lent1, lset, lset2, q_lins0, q_lins1, q_ldel0, q_ldel1, q_ldel20, q_ldel21, q_lkeep0, q_lkeep1, q_memb0, q_memb1, cat2, Nat.reduceBEq, decide_true, decide_false, decide_eq_true_eq, cond_true, cond_false, Bool.and_true, Bool.and_false, Bool.true_and, Bool.false_and, f_iadd, f_isub, f_imul, f_ishl, f_ishr, f_iushr, f_iand, f_ior, f_idiv, f_irem, f_ineg, f_i2b, f_i2s, f_ladd, f_lmul, c_eq, c_ne, c_lt, c_ge, c_gt, c_le, cc_eq, cc_ne, cc_lt, cc_ge, cc_gt, cc_le, rfo, aof, csum, Value.category, List.take, List.drop, List.reverse, List.reverseAux, List.map, List.sum_cons, List.sum_nil, List.cons_append, List.nil_append, Option.toList, List.mem_cons, List.not_mem_nil, List.length_cons, List.length_nil, reduceIte, Nat.reduceEqDiff, Nat.reduceAdd, Nat.reduceLeDiff, Nat.reduceLT, a_day, Nat.zero_ne_one, Nat.one_ne_zero, false_and, and_false, true_and, and_true, or_false, false_or, or_true, true_or, not_true_eq_false, not_false_eq_true, Nat.zero_add, Nat.add_zero, Nat.le_refl, Nat.lt_irrefl, Nat.zero_lt_succ, Nat.zero_le, forall_const, List.cons.injEq, Value.int.injEq, Value.ref.injEq, Value.long.injEq, and_assoc, exists_and_left, exists_eq_left']
    try simp only [forall_eq]
    subst hB4
    unfold BX5_seam_4
    generalize hB11 : BX5_seam_11 g Q (T_X5_isKind g) (T_X5_isNumber g) (T_X5_areEnds g) (T_X0_add g) = B11
    simp only [T_X5_isKind, T_X5_isNumber, T_X5_areEnds, T_X0_add, i_const, i_lconst, i_iload, i_aload, i_lload, i_istore, i_astore, i_lstore, i_iinc, i_bin, i_div, i_un, i_i2l, i_l2i, i_lbin, i_lcmp, i_if, i_icmp, i_dup, i_dup_x1, i_dup2, i_pop, i_geti, i_getr, i_getd, i_puti, i_putz, i_putd, i_iald, i_bald, i_aald, i_iast, i_bast, i_alen, i_keep, i_ret, i_retz, i_reta, i_retl, i_retv, i_callv, i_callk, i_calls, i_mm, i_copy, i_under, i_undld, i_ldcs, i_sw, q_swc0, q_swc1, q_lg0, q_lg1, q_lent0, q_lent1, lset, lset2, q_lins0, q_lins1, q_ldel0, q_ldel1, q_ldel20, q_ldel21, q_lkeep0, q_lkeep1, q_memb0, q_memb1, cat2, Nat.reduceBEq, decide_true, decide_false, decide_eq_true_eq, cond_true, cond_false, Bool.and_true, Bool.and_false, Bool.true_and, Bool.false_and, f_iadd, f_isub, f_imul, f_ishl, f_ishr, f_iushr, f_iand, f_ior, f_idiv, f_irem, f_ineg, f_i2b, f_i2s, f_ladd, f_lmul, c_eq, c_ne, c_lt, c_ge, c_gt, c_le, cc_eq, cc_ne, cc_lt, cc_ge, cc_gt, cc_le, rfo, aof, csum, Value.category, List.take, List.drop, List.reverse, List.reverseAux, List.map, List.sum_cons, List.sum_nil, List.cons_append, List.nil_append, Option.toList, List.mem_cons, List.not_mem_nil, List.length_cons, List.length_nil, reduceIte, Nat.reduceEqDiff, Nat.reduceAdd, Nat.reduceLeDiff, Nat.reduceLT, a_day, Nat.zero_ne_one, Nat.one_ne_zero, false_and, and_false, true_and, and_true, or_false, false_or, or_true, true_or, not_true_eq_false, not_false_eq_true, Nat.zero_add, Nat.add_zero, Nat.le_refl, Nat.lt_irrefl, Nat.zero_lt_succ, Nat.zero_le, forall_const, List.cons.injEq, Value.int.injEq, Value.ref.injEq, Value.long.injEq, and_assoc, exists_and_left, exists_eq_left']
    try simp only [forall_eq]
    refine ⟨fun z => hb (fun q => b2n z ⟨q.1.1.1, (le5 k).mpr q.1.1.2⟩), fun z1 => ?_⟩
    subst hB11
    unfold BX5_seam_11
    generalize hB18 : BX5_seam_18 g Q (T_X5_isKind g) (T_X5_isNumber g) (T_X5_areEnds g) (T_X0_add g) = B18
    simp only [T_X5_isKind, T_X5_isNumber, T_X5_areEnds, T_X0_add, i_const, i_lconst, i_iload, i_aload, i_lload, i_istore, i_astore, i_lstore, i_iinc, i_bin, i_div, i_un, i_i2l, i_l2i, i_lbin, i_lcmp, i_if, i_icmp, i_dup, i_dup_x1, i_dup2, i_pop, i_geti, i_getr, i_getd, i_puti, i_putz, i_putd, i_iald, i_bald, i_aald, i_iast, i_bast, i_alen, i_keep, i_ret, i_retz, i_reta, i_retl, i_retv, i_callv, i_callk, i_calls, i_mm, i_copy, i_under, i_undld, i_ldcs, i_sw, q_swc0, q_swc1, q_lg0, q_lg1, q_lent0, q_lent1, lset, lset2, q_lins0, q_lins1, q_ldel0, q_ldel1, q_ldel20, q_ldel21, q_lkeep0, q_lkeep1, q_memb0, q_memb1, cat2, Nat.reduceBEq, decide_true, decide_false, decide_eq_true_eq, cond_true, cond_false, Bool.and_true, Bool.and_false, Bool.true_and, Bool.false_and, f_iadd, f_isub, f_imul, f_ishl, f_ishr, f_iushr, f_iand, f_ior, f_idiv, f_irem, f_ineg, f_i2b, f_i2s, f_ladd, f_lmul, c_eq, c_ne, c_lt, c_ge, c_gt, c_le, cc_eq, cc_ne, cc_lt, cc_ge, cc_gt, cc_le, rfo, aof, csum, Value.category, List.take, List.drop, List.reverse, List.reverseAux, List.map, List.sum_cons, List.sum_nil, List.cons_append, List.nil_append, Option.toList, List.mem_cons, List.not_mem_nil, List.length_cons, List.length_nil, reduceIte, Nat.reduceEqDiff, Nat.reduceAdd, Nat.reduceLeDiff, Nat.reduceLT, a_day, Nat.zero_ne_one, Nat.one_ne_zero, false_and, and_false, true_and, and_true, or_false, false_or, or_true, true_or, not_true_eq_false, not_false_eq_true, Nat.zero_add, Nat.add_zero, Nat.le_refl, Nat.lt_irrefl, Nat.zero_lt_succ, Nat.zero_le, forall_const, List.cons.injEq, Value.int.injEq, Value.ref.injEq, Value.long.injEq, and_assoc, exists_and_left, exists_eq_left']
    try simp only [forall_eq]
    refine ⟨fun z => hb (fun q => b2n z q.1.2), fun z2 => ?_⟩
    subst hB18
    unfold BX5_seam_18
    generalize hB56 : BX5_seam_56 g Q (T_X5_isKind g) (T_X5_isNumber g) (T_X5_areEnds g) (T_X0_add g) = B56
    simp only [T_X5_isKind, T_X5_isNumber, T_X5_areEnds, T_X0_add, i_const, i_lconst, i_iload, i_aload, i_lload, i_istore, i_astore, i_lstore, i_iinc, i_bin, i_div, i_un, i_i2l, i_l2i, i_lbin, i_lcmp, i_if, i_icmp, i_dup, i_dup_x1, i_dup2, i_pop, i_geti, i_getr, i_getd, i_puti, i_putz, i_putd, i_iald, i_bald, i_aald, i_iast, i_bast, i_alen, i_keep, i_ret, i_retz, i_reta, i_retl, i_retv, i_callv, i_callk, i_calls, i_mm, i_copy, i_under, i_undld, i_ldcs, i_sw, q_swc0, q_swc1, q_lg0, q_lg1, q_lent0, q_lent1, lset, lset2, q_lins0, q_lins1, q_ldel0, q_ldel1, q_ldel20, q_ldel21, q_lkeep0, q_lkeep1, q_memb0, q_memb1, cat2, Nat.reduceBEq, decide_true, decide_false, decide_eq_true_eq, cond_true, cond_false, Bool.and_true, Bool.and_false, Bool.true_and, Bool.false_and, f_iadd, f_isub, f_imul, f_ishl, f_ishr, f_iushr, f_iand, f_ior, f_idiv, f_irem, f_ineg, f_i2b, f_i2s, f_ladd, f_lmul, c_eq, c_ne, c_lt, c_ge, c_gt, c_le, cc_eq, cc_ne, cc_lt, cc_ge, cc_gt, cc_le, rfo, aof, csum, Value.category, List.take, List.drop, List.reverse, List.reverseAux, List.map, List.sum_cons, List.sum_nil, List.cons_append, List.nil_append, Option.toList, List.mem_cons, List.not_mem_nil, List.length_cons, List.length_nil, reduceIte, Nat.reduceEqDiff, Nat.reduceAdd, Nat.reduceLeDiff, Nat.reduceLT, a_day, Nat.zero_ne_one, Nat.one_ne_zero, false_and, and_false, true_and, and_true, or_false, false_or, or_true, true_or, not_true_eq_false, not_false_eq_true, Nat.zero_add, Nat.add_zero, Nat.le_refl, Nat.lt_irrefl, Nat.zero_lt_succ, Nat.zero_le, forall_const, List.cons.injEq, Value.int.injEq, Value.ref.injEq, Value.long.injEq, and_assoc, exists_and_left, exists_eq_left']
    try simp only [forall_eq]
    refine ⟨fun z3 => ?_, fun z => hb (fun q => b2n (Decidable.not_not.mp z) q.2)⟩
    have c1 := b2t z1
    have ok : seamOK k nu ee := ⟨⟨⟨c1.1, (le5 k).mp c1.2⟩, b2t z2⟩, b2t z3⟩
    rw [hmany]
    refine ⟨c_0 hg, c_40 hg, fun y => ⟨c_0 hg, by decide, by decide, (c_40 hg).1, (c_40 hg).2.1, D40, rfl, hn6, fun M1 hs1 hd1 => ?_⟩, fun y => ?_⟩
    · have hlt : dn (dv M0 40) < 6 := (nI_ltI (b := 6) (by omega) (by decide)).mp y
      have h1 := h ok hlt M1 hs1 hd1
      have e6 : M1 40 6 = nI (dn (dv M0 40) + 1) := by
        have : dv M1 40 7 0 = nI (dn (dv M0 40) + 1) := by rw [hd1]; simp [addD]
        exact this
      subst hB56
      unfold BX5_seam_56
      simp only [T_X5_isKind, T_X5_isNumber, T_X5_areEnds, T_X0_add, i_const, i_lconst, i_iload, i_aload, i_lload, i_istore, i_astore, i_lstore, i_iinc, i_bin, i_div, i_un, i_i2l, i_l2i, i_lbin, i_lcmp, i_if, i_icmp, i_dup, i_dup_x1, i_dup2, i_pop, i_geti, i_getr, i_getd, i_puti, i_putz, i_putd, i_iald, i_bald, i_aald, i_iast, i_bast, i_alen, i_keep, i_ret, i_retz, i_reta, i_retl, i_retv, i_callv, i_callk, i_calls, i_mm, i_copy, i_under, i_undld, i_ldcs, i_sw, q_swc0, q_swc1, q_lg0, q_lg1, q_lent0, q_lent1, lset, lset2, q_lins0, q_lins1, q_ldel0, q_ldel1, q_ldel20, q_ldel21, q_lkeep0, q_lkeep1, q_memb0, q_memb1, cat2, Nat.reduceBEq, decide_true, decide_false, decide_eq_true_eq, cond_true, cond_false, Bool.and_true, Bool.and_false, Bool.true_and, Bool.false_and, f_iadd, f_isub, f_imul, f_ishl, f_ishr, f_iushr, f_iand, f_ior, f_idiv, f_irem, f_ineg, f_i2b, f_i2s, f_ladd, f_lmul, c_eq, c_ne, c_lt, c_ge, c_gt, c_le, cc_eq, cc_ne, cc_lt, cc_ge, cc_gt, cc_le, rfo, aof, csum, Value.category, List.take, List.drop, List.reverse, List.reverseAux, List.map, List.sum_cons, List.sum_nil, List.cons_append, List.nil_append, Option.toList, List.mem_cons, List.not_mem_nil, List.length_cons, List.length_nil, reduceIte, Nat.reduceEqDiff, Nat.reduceAdd, Nat.reduceLeDiff, Nat.reduceLT, a_day, Nat.zero_ne_one, Nat.one_ne_zero, false_and, and_false, true_and, and_true, or_false, false_or, or_true, true_or, not_true_eq_false, not_false_eq_true, Nat.zero_add, Nat.add_zero, Nat.le_refl, Nat.lt_irrefl, Nat.zero_lt_succ, Nat.zero_le, forall_const, List.cons.injEq, Value.int.injEq, Value.ref.injEq, Value.long.injEq, and_assoc, exists_and_left, exists_eq_left']
      try simp only [forall_eq]
      rw [e6, nI_pred]
      exact ⟨c_0 hg, c_40 hg, h1⟩
    · exact hf ok (by
        have : ¬ dn (dv M0 40) < 6 := fun q => y ((nI_ltI (b := 6) (by omega) (by decide)).mpr q)
        omega)
def T_X5_hours (g : WG) (as : List Value) (M : MM) (Q : Option Value → MM → Prop) : Prop := ∃ w, as = [.ref 0, .int w] ∧ okD M 40 ∧ ∀ M', Sm (XP 40) M M' → Q (some (.int (hrs (xc M) (dv M 40) w))) M'
set_option maxRecDepth 100000 in
set_option maxHeartbeats 1000000 in
theorem t_X5_hours {l : Launch} {g : WG} (hg : Full g) : Ct l g yX5_hours cX5_hours 2 ((Option.some FieldType.int)) 7 (T_X5_hours g) := by
  refine Ct.of (by decide) (fun as M Q h => ?_) (fun p e s m args below meth c as M Q h C => ?_)
  · obtain ⟨w, rfl, ho, h⟩ := h; exact ⟨by simp, by simp [Value.category]⟩
  · obtain ⟨w, rfl, ho, h⟩ := h
    refine s_of (fun lv st M0 hs => ?_) (WX5_hours_0 C (t_X0_worth hg) (by decide) (t_X0_goneHours hg) (by decide) (t_X0_weigh hg) (by decide) (t_X0_stretch hg) (by decide) (t_X0_tightest hg) (by decide))
    obtain ⟨rfl, rfl, rfl⟩ := hs
    unfold BX5_hours_0
    generalize hB59 : BX5_hours_59 g Q (T_X0_worth g) (T_X0_goneHours g) (T_X0_weigh g) (T_X0_stretch g) (T_X0_tightest g) = B59
    simp only [T_X0_worth, T_X0_goneHours, T_X0_weigh, T_X0_stretch, T_X0_tightest, i_const, i_lconst, i_iload, i_aload, i_lload, i_istore, i_astore, i_lstore, i_iinc, i_bin, i_div, i_un, i_i2l, i_l2i, i_lbin, i_lcmp, i_if, i_icmp, i_dup, i_dup_x1, i_dup2, i_pop, i_geti, i_getr, i_getd, i_puti, i_putz, i_putd, i_iald, i_bald, i_aald, i_iast, i_bast, i_alen, i_keep, i_ret, i_retz, i_reta, i_retl, i_retv, i_callv, i_callk, i_calls, i_mm, i_copy, i_under, i_undld, i_ldcs, i_sw, q_swc0, q_swc1, q_lg0, q_lg1, q_lent0, q_lent1, lset, lset2, q_lins0, q_lins1, q_ldel0, q_ldel1, q_ldel20, q_ldel21, q_lkeep0, q_lkeep1, q_memb0, q_memb1, cat2, Nat.reduceBEq, decide_true, decide_false, decide_eq_true_eq, cond_true, cond_false, Bool.and_true, Bool.and_false, Bool.true_and, Bool.false_and, f_iadd, f_isub, f_imul, f_ishl, f_ishr, f_iushr, f_iand, f_ior, f_idiv, f_irem, f_ineg, f_i2b, f_i2s, f_ladd, f_lmul, c_eq, c_ne, c_lt, c_ge, c_gt, c_le, cc_eq, cc_ne, cc_lt, cc_ge, cc_gt, cc_le, rfo, aof, csum, Value.category, List.take, List.drop, List.reverse, List.reverseAux, List.map, List.sum_cons, List.sum_nil, List.cons_append, List.nil_append, Option.toList, List.mem_cons, List.not_mem_nil, List.length_cons, List.length_nil, reduceIte, Nat.reduceEqDiff, Nat.reduceAdd, Nat.reduceLeDiff, Nat.reduceLT, a_day, Nat.zero_ne_one, Nat.one_ne_zero, false_and, and_false, true_and, and_true, or_false, false_or, or_true, true_or, not_true_eq_false, not_false_eq_true, Nat.zero_add, Nat.add_zero, Nat.le_refl, Nat.lt_irrefl, Nat.zero_lt_succ, Nat.zero_le, forall_const, List.cons.injEq, Value.int.injEq, Value.ref.injEq, Value.long.injEq, and_assoc, exists_and_left, exists_eq_left']
    try simp only [forall_eq]
    unfold hrs at h
    refine ⟨fun e => ?_, fun e0 => ⟨fun e => ?_, fun e1 => ⟨fun e => ?_, fun e2 => ⟨fun e => ?_, fun e3 => ⟨fun e => ?_, fun e4 => ?_⟩⟩⟩⟩⟩
    · rw [if_pos e] at h
      exact ⟨c_0 hg, (c_40 hg).1, (c_40 hg).2.1, ho, h⟩
    · rw [if_neg e0, if_pos e] at h
      exact ⟨c_0 hg, (c_40 hg).1, (c_40 hg).2.1, ho, h M0 Sm.rf⟩
    · rw [if_neg e0, if_neg e1, if_pos e] at h
      refine ⟨c_0 hg, (c_40 hg).1, (c_40 hg).2.1, ho, fun M1 hs1 h7 h3 h8 => ?_⟩
      subst hB59
      unfold BX5_hours_59
      simp only [T_X0_worth, T_X0_goneHours, T_X0_weigh, T_X0_stretch, T_X0_tightest, i_const, i_lconst, i_iload, i_aload, i_lload, i_istore, i_astore, i_lstore, i_iinc, i_bin, i_div, i_un, i_i2l, i_l2i, i_lbin, i_lcmp, i_if, i_icmp, i_dup, i_dup_x1, i_dup2, i_pop, i_geti, i_getr, i_getd, i_puti, i_putz, i_putd, i_iald, i_bald, i_aald, i_iast, i_bast, i_alen, i_keep, i_ret, i_retz, i_reta, i_retl, i_retv, i_callv, i_callk, i_calls, i_mm, i_copy, i_under, i_undld, i_ldcs, i_sw, q_swc0, q_swc1, q_lg0, q_lg1, q_lent0, q_lent1, lset, lset2, q_lins0, q_lins1, q_ldel0, q_ldel1, q_ldel20, q_ldel21, q_lkeep0, q_lkeep1, q_memb0, q_memb1, cat2, Nat.reduceBEq, decide_true, decide_false, decide_eq_true_eq, cond_true, cond_false, Bool.and_true, Bool.and_false, Bool.true_and, Bool.false_and, f_iadd, f_isub, f_imul, f_ishl, f_ishr, f_iushr, f_iand, f_ior, f_idiv, f_irem, f_ineg, f_i2b, f_i2s, f_ladd, f_lmul, c_eq, c_ne, c_lt, c_ge, c_gt, c_le, cc_eq, cc_ne, cc_lt, cc_ge, cc_gt, cc_le, rfo, aof, csum, Value.category, List.take, List.drop, List.reverse, List.reverseAux, List.map, List.sum_cons, List.sum_nil, List.cons_append, List.nil_append, Option.toList, List.mem_cons, List.not_mem_nil, List.length_cons, List.length_nil, reduceIte, Nat.reduceEqDiff, Nat.reduceAdd, Nat.reduceLeDiff, Nat.reduceLT, a_day, Nat.zero_ne_one, Nat.one_ne_zero, false_and, and_false, true_and, and_true, or_false, false_or, or_true, true_or, not_true_eq_false, not_false_eq_true, Nat.zero_add, Nat.add_zero, Nat.le_refl, Nat.lt_irrefl, Nat.zero_lt_succ, Nat.zero_le, forall_const, List.cons.injEq, Value.int.injEq, Value.ref.injEq, Value.long.injEq, and_assoc, exists_and_left, exists_eq_left']
      try simp only [forall_eq]
      rw [h8]
      exact ⟨c_0 hg, c_40 hg, h M1 hs1⟩
    · rw [if_neg e0, if_neg e1, if_neg e2, if_pos e] at h
      exact ⟨c_0 hg, (c_40 hg).1, (c_40 hg).2.1, ho, h M0 Sm.rf⟩
    · rw [if_neg e0, if_neg e1, if_neg e2, if_neg e3, if_pos e] at h
      exact ⟨c_0 hg, (c_40 hg).1, (c_40 hg).2.1, ho, h⟩
    · rw [if_neg e0, if_neg e1, if_neg e2, if_neg e3, if_neg e4] at h
      exact h M0 Sm.rf
def T_X5_pass (g : WG) (as : List Value) (M : MM) (Q : Option Value → MM → Prop) : Prop := as = [.ref 0] ∧ okD M 40 ∧ (¬ M 40 5 < 999 → Q (some (.int (-3))) M) ∧ (M 40 5 < 999 → ∀ M', Sm (XD 40) M M' → dv M' 40 = pasD (xc M) (dv M 40) → Q (some (.int (pasB (xc M) (dv M 40)))) M')
set_option maxRecDepth 100000 in
set_option maxHeartbeats 1000000 in
theorem t_X5_pass {l : Launch} {g : WG} (hg : Full g) : Ct l g yX5_pass cX5_pass 1 ((Option.some FieldType.int)) 6 (T_X5_pass g) := by
  refine Ct.of (by decide) (fun as M Q h => ?_) (fun p e s m args below meth c as M Q h C => ?_)
  · obtain ⟨rfl, ho, h1, h2⟩ := h; exact ⟨by simp, by simp [Value.category]⟩
  · obtain ⟨rfl, ho, h1, h2⟩ := h
    refine s_of (fun lv st M0 hs => ?_) (WX5_pass_0 C (t_X0_wearOn hg) (by decide))
    obtain ⟨rfl, rfl, rfl⟩ := hs
    unfold BX5_pass_0
    simp only [T_X0_wearOn, i_const, i_lconst, i_iload, i_aload, i_lload, i_istore, i_astore, i_lstore, i_iinc, i_bin, i_div, i_un, i_i2l, i_l2i, i_lbin, i_lcmp, i_if, i_icmp, i_dup, i_dup_x1, i_dup2, i_pop, i_geti, i_getr, i_getd, i_puti, i_putz, i_putd, i_iald, i_bald, i_aald, i_iast, i_bast, i_alen, i_keep, i_ret, i_retz, i_reta, i_retl, i_retv, i_callv, i_callk, i_calls, i_mm, i_copy, i_under, i_undld, i_ldcs, i_sw, q_swc0, q_swc1, q_lg0, q_lg1, q_lent0, q_lent1, lset, lset2, q_lins0, q_lins1, q_ldel0, q_ldel1, q_ldel20, q_ldel21, q_lkeep0, q_lkeep1, q_memb0, q_memb1, cat2, Nat.reduceBEq, decide_true, decide_false, decide_eq_true_eq, cond_true, cond_false, Bool.and_true, Bool.and_false, Bool.true_and, Bool.false_and, f_iadd, f_isub, f_imul, f_ishl, f_ishr, f_iushr, f_iand, f_ior, f_idiv, f_irem, f_ineg, f_i2b, f_i2s, f_ladd, f_lmul, c_eq, c_ne, c_lt, c_ge, c_gt, c_le, cc_eq, cc_ne, cc_lt, cc_ge, cc_gt, cc_le, rfo, aof, csum, Value.category, List.take, List.drop, List.reverse, List.reverseAux, List.map, List.sum_cons, List.sum_nil, List.cons_append, List.nil_append, Option.toList, List.mem_cons, List.not_mem_nil, List.length_cons, List.length_nil, reduceIte, Nat.reduceEqDiff, Nat.reduceAdd, Nat.reduceLeDiff, Nat.reduceLT, a_day, Nat.zero_ne_one, Nat.one_ne_zero, false_and, and_false, true_and, and_true, or_false, false_or, or_true, true_or, not_true_eq_false, not_false_eq_true, Nat.zero_add, Nat.add_zero, Nat.le_refl, Nat.lt_irrefl, Nat.zero_lt_succ, Nat.zero_le, forall_const, List.cons.injEq, Value.int.injEq, Value.ref.injEq, Value.long.injEq, and_assoc, exists_and_left, exists_eq_left']
    try simp only [forall_eq]
    exact ⟨c_0 hg, c_40 hg, fun y => ⟨c_0 hg, (c_40 hg).1, (c_40 hg).2.1, ho, h2 y⟩, fun y => h1 y⟩
def T_X5_force (g : WG) (as : List Value) (M : MM) (Q : Option Value → MM → Prop) : Prop := ∃ x n t, as = [.ref 0, .int x] ∧ M 0 6 = nI n ∧ n ≤ 6 ∧ M 40 4 = nI (8 + 4 * t) ∧ t < 6 ∧ (¬ (0 ≤ x ∧ x < nI n) → Q (some (.int (-2))) M) ∧ (∀ k, x = nI k → k < n → Q (some (.int (M (8 + 4 * t) 0))) (mset M 40 4 (nI (8 + 4 * k))))
set_option maxRecDepth 100000 in
set_option maxHeartbeats 1000000 in
theorem t_X5_force {l : Launch} {g : WG} (hg : Full g) : Ct l g yX5_force cX5_force 3 ((Option.some FieldType.int)) 1 (T_X5_force g) := by
  refine Ct.of (by decide) (fun as M Q h => ?_) (fun p e s m args below meth c as M Q h C => ?_)
  · obtain ⟨x, n, t, rfl, h06, hn, h4, ht, hb, h⟩ := h; exact ⟨by simp, by simp [Value.category]⟩
  · obtain ⟨x, n, t, rfl, h06, hn, h4, ht, hb, h⟩ := h
    have hrd : rdv (M 40 4) = .ref (8 + 4 * t) := by rw [h4]; exact rdv_n (by omega)
    have tok := text_ok (g := g) (r := 8 + 4 * t) (fun q a b => hg q (by omega) (by omega)) ⟨t, ht, rfl⟩
    refine s_of (fun lv st M0 hs => ?_) (WX5_force_0 C)
    obtain ⟨rfl, rfl, rfl⟩ := hs
    unfold BX5_force_0
    simp only [i_const, i_lconst, i_iload, i_aload, i_lload, i_istore, i_astore, i_lstore, i_iinc, i_bin, i_div, i_un, i_i2l, i_l2i, i_lbin, i_lcmp, i_if, i_icmp, i_dup, i_dup_x1, i_dup2, i_pop, i_geti, i_getr, i_getd, i_puti, i_putz, i_putd, i_iald, i_bald, i_aald, i_iast, i_bast, i_alen, i_keep, i_ret, i_retz, i_reta, i_retl, i_retv, i_callv, i_callk, i_calls, i_mm, i_copy, i_under, i_undld, i_ldcs, i_sw, q_swc0, q_swc1, q_lg0, q_lg1, q_lent0, q_lent1, lset, lset2, q_lins0, q_lins1, q_ldel0, q_ldel1, q_ldel20, q_ldel21, q_lkeep0, q_lkeep1, q_memb0, q_memb1, cat2, Nat.reduceBEq, decide_true, decide_false, decide_eq_true_eq, cond_true, cond_false, Bool.and_true, Bool.and_false, Bool.true_and, Bool.false_and, f_iadd, f_isub, f_imul, f_ishl, f_ishr, f_iushr, f_iand, f_ior, f_idiv, f_irem, f_ineg, f_i2b, f_i2s, f_ladd, f_lmul, c_eq, c_ne, c_lt, c_ge, c_gt, c_le, cc_eq, cc_ne, cc_lt, cc_ge, cc_gt, cc_le, rfo, aof, csum, Value.category, List.take, List.drop, List.reverse, List.reverseAux, List.map, List.sum_cons, List.sum_nil, List.cons_append, List.nil_append, Option.toList, List.mem_cons, List.not_mem_nil, List.length_cons, List.length_nil, reduceIte, Nat.reduceEqDiff, Nat.reduceAdd, Nat.reduceLeDiff, Nat.reduceLT, a_day, Nat.zero_ne_one, Nat.one_ne_zero, false_and, and_false, true_and, and_true, or_false, false_or, or_true, true_or, not_true_eq_false, not_false_eq_true, Nat.zero_add, Nat.add_zero, Nat.le_refl, Nat.lt_irrefl, Nat.zero_lt_succ, Nat.zero_le, forall_const, List.cons.injEq, Value.int.injEq, Value.ref.injEq, Value.long.injEq, and_assoc, exists_and_left, exists_eq_left']
    try simp only [forall_eq]
    rw [h06]
    refine ⟨fun y => hb (fun q => i_not_lt.mpr q.1 y), fun y => ⟨c_0 hg, fun u => ?_, fun u => hb (fun q => u q.2)⟩⟩
    obtain ⟨k, hk31, rfl⟩ := nI_of y
    have hk : k < n := (nI_ltI hk31 (by omega)).mp u
    rw [hrd, nI_clamp hk31]
    refine ⟨c_0 hg, c_40 hg, ?_⟩
    simp only [i_const, i_lconst, i_iload, i_aload, i_lload, i_istore, i_astore, i_lstore, i_iinc, i_bin, i_div, i_un, i_i2l, i_l2i, i_lbin, i_lcmp, i_if, i_icmp, i_dup, i_dup_x1, i_dup2, i_pop, i_geti, i_getr, i_getd, i_puti, i_putz, i_putd, i_iald, i_bald, i_aald, i_iast, i_bast, i_alen, i_keep, i_ret, i_retz, i_reta, i_retl, i_retv, i_callv, i_callk, i_calls, i_mm, i_copy, i_under, i_undld, i_ldcs, i_sw, q_swc0, q_swc1, q_lg0, q_lg1, q_lent0, q_lent1, lset, lset2, q_lins0, q_lins1, q_ldel0, q_ldel1, q_ldel20, q_ldel21, q_lkeep0, q_lkeep1, q_memb0, q_memb1, cat2, Nat.reduceBEq, decide_true, decide_false, decide_eq_true_eq, cond_true, cond_false, Bool.and_true, Bool.and_false, Bool.true_and, Bool.false_and, f_iadd, f_isub, f_imul, f_ishl, f_ishr, f_iushr, f_iand, f_ior, f_idiv, f_irem, f_ineg, f_i2b, f_i2s, f_ladd, f_lmul, c_eq, c_ne, c_lt, c_ge, c_gt, c_le, cc_eq, cc_ne, cc_lt, cc_ge, cc_gt, cc_le, rfo, aof, csum, Value.category, List.take, List.drop, List.reverse, List.reverseAux, List.map, List.sum_cons, List.sum_nil, List.cons_append, List.nil_append, Option.toList, List.mem_cons, List.not_mem_nil, List.length_cons, List.length_nil, reduceIte, Nat.reduceEqDiff, Nat.reduceAdd, Nat.reduceLeDiff, Nat.reduceLT, a_day, Nat.zero_ne_one, Nat.one_ne_zero, false_and, and_false, true_and, and_true, or_false, false_or, or_true, true_or, not_true_eq_false, not_false_eq_true, Nat.zero_add, Nat.add_zero, Nat.le_refl, Nat.lt_irrefl, Nat.zero_lt_succ, Nat.zero_le, forall_const, List.cons.injEq, Value.int.injEq, Value.ref.injEq, Value.long.injEq, and_assoc, exists_and_left, exists_eq_left', forall_eq]
    refine ⟨tok.1, c_0 hg, c_0 hg, okR hg (by decide) (by decide) rfl, vp_in_nI (n := k) (N := 6) (by omega) (by decide), c_40 hg, (show (1 + (7 + 4 * k) : Nat) < 1000 by omega), ?_⟩
    have e : 1 + (7 + 4 * k) = 8 + 4 * k := by omega
    rw [e]
    exact h k rfl hk
def T_X3_add (g : WG) (as : List Value) (M : MM) (Q : Option Value → MM → Prop) : Prop := ∃ x n, as = [.ref 3, .int x] ∧ M 3 4 = nI n ∧ n ≤ 160 ∧ (n = 160 → Q (some (.int 0)) M) ∧ (n < 160 → Q (some (.int 1)) (mset (mset M 4 n x) 3 4 (nI (n + 1))))
set_option maxRecDepth 100000 in
set_option maxHeartbeats 1000000 in
theorem t_X3_add {l : Launch} {g : WG} (hr : Reg g 3 32) : Ct l g yX3_add cX3_add 2 ((Option.some FieldType.boolean)) 1 (T_X3_add g) := by
  refine Ct.of (by decide) (fun as M Q h => ?_) (fun p e s m args below meth c as M Q h C => ?_)
  · obtain ⟨x, n, rfl, h4, hn, hf, h⟩ := h; exact ⟨by simp, by simp [Value.category]⟩
  · obtain ⟨x, n, rfl, h4, hn, hf, h⟩ := h
    refine s_of (fun lv st M0 hs => ?_) (WX3_add_0 C)
    obtain ⟨rfl, rfl, rfl⟩ := hs
    unfold BX3_add_0
    simp only [i_const, i_lconst, i_iload, i_aload, i_lload, i_istore, i_astore, i_lstore, i_iinc, i_bin, i_div, i_un, i_i2l, i_l2i, i_lbin, i_lcmp, i_if, i_icmp, i_dup, i_dup_x1, i_dup2, i_pop, i_geti, i_getr, i_getd, i_puti, i_putz, i_putd, i_iald, i_bald, i_aald, i_iast, i_bast, i_alen, i_keep, i_ret, i_retz, i_reta, i_retl, i_retv, i_callv, i_callk, i_calls, i_mm, i_copy, i_under, i_undld, i_ldcs, i_sw, q_swc0, q_swc1, q_lg0, q_lg1, q_lent0, q_lent1, lset, lset2, q_lins0, q_lins1, q_ldel0, q_ldel1, q_ldel20, q_ldel21, q_lkeep0, q_lkeep1, q_memb0, q_memb1, cat2, Nat.reduceBEq, decide_true, decide_false, decide_eq_true_eq, cond_true, cond_false, Bool.and_true, Bool.and_false, Bool.true_and, Bool.false_and, f_iadd, f_isub, f_imul, f_ishl, f_ishr, f_iushr, f_iand, f_ior, f_idiv, f_irem, f_ineg, f_i2b, f_i2s, f_ladd, f_lmul, c_eq, c_ne, c_lt, c_ge, c_gt, c_le, cc_eq, cc_ne, cc_lt, cc_ge, cc_gt, cc_le, rfo, aof, csum, Value.category, List.take, List.drop, List.reverse, List.reverseAux, List.map, List.sum_cons, List.sum_nil, List.cons_append, List.nil_append, Option.toList, List.mem_cons, List.not_mem_nil, List.length_cons, List.length_nil, reduceIte, Nat.reduceEqDiff, Nat.reduceAdd, Nat.reduceLeDiff, Nat.reduceLT, a_day, Nat.zero_ne_one, Nat.one_ne_zero, false_and, and_false, true_and, and_true, or_false, false_or, or_true, true_or, not_true_eq_false, not_false_eq_true, Nat.zero_add, Nat.add_zero, Nat.le_refl, Nat.lt_irrefl, Nat.zero_lt_succ, Nat.zero_le, forall_const, List.cons.injEq, Value.int.injEq, Value.ref.injEq, Value.long.injEq, and_assoc, exists_and_left, exists_eq_left']
    try simp only [forall_eq]
    have t3 : okq g 3 3 := okR hr (by decide) (by decide) rfl
    have t4 : okq g 7 4 := okR hr (by decide) (by decide) rfl
    have e : mset M0 4 n x 3 4 = nI n := by rw [ms_q (by decide)]; exact h4
    rw [h4, nI_clamp (by omega), e, nI_1]
    refine ⟨t3, fun y => ?_, fun y => ?_⟩
    · have hlt : n < 160 := (nI_ltI (b := 160) (by omega) (by decide)).mp y
      exact ⟨t3, t3, t4, vp_in_nI (n := n) (N := 160) hlt (by decide), t3, t3, h hlt⟩
    · exact hf (by
        have : ¬ n < 160 := fun q => y ((nI_ltI (b := 160) (by omega) (by decide)).mpr q)
        omega)
def T_X5_feed (g : WG) (as : List Value) (M : MM) (Q : Option Value → MM → Prop) : Prop := ∃ x n, as = [.ref 0, .int x] ∧ M 3 4 = nI n ∧ n ≤ 160 ∧ (¬ (0 ≤ x ∧ x ≤ 255) → Q (some (.int (-2))) M) ∧ ((0 ≤ x ∧ x ≤ 255) → n = 160 → Q (some (.int (-4))) M) ∧ ((0 ≤ x ∧ x ≤ 255) → n < 160 → Q (some (.int (nI (n + 1)))) (mset (mset M 4 n x) 3 4 (nI (n + 1))))
set_option maxRecDepth 100000 in
set_option maxHeartbeats 1000000 in
theorem t_X5_feed {l : Launch} {g : WG} (hg : Full g) : Ct l g yX5_feed cX5_feed 2 ((Option.some FieldType.int)) 2 (T_X5_feed g) := by
  refine Ct.of (by decide) (fun as M Q h => ?_) (fun p e s m args below meth c as M Q h C => ?_)
  · obtain ⟨x, n, rfl, h4, hn, hb, hf, h⟩ := h; exact ⟨by simp, by simp [Value.category]⟩
  · obtain ⟨x, n, rfl, h4, hn, hb, hf, h⟩ := h
    refine s_of (fun lv st M0 hs => ?_) (WX5_feed_0 C (t_X3_add (tape_r hg)) (by decide))
    obtain ⟨rfl, rfl, rfl⟩ := hs
    unfold BX5_feed_0
    generalize hB22 : BX5_feed_22 g Q (T_X3_add g) = B22
    simp only [T_X3_add, i_const, i_lconst, i_iload, i_aload, i_lload, i_istore, i_astore, i_lstore, i_iinc, i_bin, i_div, i_un, i_i2l, i_l2i, i_lbin, i_lcmp, i_if, i_icmp, i_dup, i_dup_x1, i_dup2, i_pop, i_geti, i_getr, i_getd, i_puti, i_putz, i_putd, i_iald, i_bald, i_aald, i_iast, i_bast, i_alen, i_keep, i_ret, i_retz, i_reta, i_retl, i_retv, i_callv, i_callk, i_calls, i_mm, i_copy, i_under, i_undld, i_ldcs, i_sw, q_swc0, q_swc1, q_lg0, q_lg1, q_lent0, q_lent1, lset, lset2, q_lins0, q_lins1, q_ldel0, q_ldel1, q_ldel20, q_ldel21, q_lkeep0, q_lkeep1, q_memb0, q_memb1, cat2, Nat.reduceBEq, decide_true, decide_false, decide_eq_true_eq, cond_true, cond_false, Bool.and_true, Bool.and_false, Bool.true_and, Bool.false_and, f_iadd, f_isub, f_imul, f_ishl, f_ishr, f_iushr, f_iand, f_ior, f_idiv, f_irem, f_ineg, f_i2b, f_i2s, f_ladd, f_lmul, c_eq, c_ne, c_lt, c_ge, c_gt, c_le, cc_eq, cc_ne, cc_lt, cc_ge, cc_gt, cc_le, rfo, aof, csum, Value.category, List.take, List.drop, List.reverse, List.reverseAux, List.map, List.sum_cons, List.sum_nil, List.cons_append, List.nil_append, Option.toList, List.mem_cons, List.not_mem_nil, List.length_cons, List.length_nil, reduceIte, Nat.reduceEqDiff, Nat.reduceAdd, Nat.reduceLeDiff, Nat.reduceLT, a_day, Nat.zero_ne_one, Nat.one_ne_zero, false_and, and_false, true_and, and_true, or_false, false_or, or_true, true_or, not_true_eq_false, not_false_eq_true, Nat.zero_add, Nat.add_zero, Nat.le_refl, Nat.lt_irrefl, Nat.zero_lt_succ, Nat.zero_le, forall_const, List.cons.injEq, Value.int.injEq, Value.ref.injEq, Value.long.injEq, and_assoc, exists_and_left, exists_eq_left']
    try simp only [forall_eq]
    have t3 : okq g 3 3 := okR hg (by decide) (by decide) rfl
    refine ⟨fun y => hb (fun q => i_not_lt.mpr q.1 y), fun y => ⟨fun u => ?_, fun u => hb (fun q => u q.2)⟩⟩
    have c : 0 ≤ x ∧ x ≤ 255 := ⟨i_not_lt.mp y, u⟩
    refine ⟨c_0 hg, t3.1, t3.2.1, n, h4, hn, fun e => ?_, fun e => ?_⟩
    · subst hB22
      unfold BX5_feed_22
      simp only [T_X3_add, i_const, i_lconst, i_iload, i_aload, i_lload, i_istore, i_astore, i_lstore, i_iinc, i_bin, i_div, i_un, i_i2l, i_l2i, i_lbin, i_lcmp, i_if, i_icmp, i_dup, i_dup_x1, i_dup2, i_pop, i_geti, i_getr, i_getd, i_puti, i_putz, i_putd, i_iald, i_bald, i_aald, i_iast, i_bast, i_alen, i_keep, i_ret, i_retz, i_reta, i_retl, i_retv, i_callv, i_callk, i_calls, i_mm, i_copy, i_under, i_undld, i_ldcs, i_sw, q_swc0, q_swc1, q_lg0, q_lg1, q_lent0, q_lent1, lset, lset2, q_lins0, q_lins1, q_ldel0, q_ldel1, q_ldel20, q_ldel21, q_lkeep0, q_lkeep1, q_memb0, q_memb1, cat2, Nat.reduceBEq, decide_true, decide_false, decide_eq_true_eq, cond_true, cond_false, Bool.and_true, Bool.and_false, Bool.true_and, Bool.false_and, f_iadd, f_isub, f_imul, f_ishl, f_ishr, f_iushr, f_iand, f_ior, f_idiv, f_irem, f_ineg, f_i2b, f_i2s, f_ladd, f_lmul, c_eq, c_ne, c_lt, c_ge, c_gt, c_le, cc_eq, cc_ne, cc_lt, cc_ge, cc_gt, cc_le, rfo, aof, csum, Value.category, List.take, List.drop, List.reverse, List.reverseAux, List.map, List.sum_cons, List.sum_nil, List.cons_append, List.nil_append, Option.toList, List.mem_cons, List.not_mem_nil, List.length_cons, List.length_nil, reduceIte, Nat.reduceEqDiff, Nat.reduceAdd, Nat.reduceLeDiff, Nat.reduceLT, a_day, Nat.zero_ne_one, Nat.one_ne_zero, false_and, and_false, true_and, and_true, or_false, false_or, or_true, true_or, not_true_eq_false, not_false_eq_true, Nat.zero_add, Nat.add_zero, Nat.le_refl, Nat.lt_irrefl, Nat.zero_lt_succ, Nat.zero_le, forall_const, List.cons.injEq, Value.int.injEq, Value.ref.injEq, Value.long.injEq, and_assoc, exists_and_left, exists_eq_left']
      try simp only [forall_eq]
      exact ⟨hf c e, fun z => z.elim⟩
    · subst hB22
      unfold BX5_feed_22
      simp only [T_X3_add, i_const, i_lconst, i_iload, i_aload, i_lload, i_istore, i_astore, i_lstore, i_iinc, i_bin, i_div, i_un, i_i2l, i_l2i, i_lbin, i_lcmp, i_if, i_icmp, i_dup, i_dup_x1, i_dup2, i_pop, i_geti, i_getr, i_getd, i_puti, i_putz, i_putd, i_iald, i_bald, i_aald, i_iast, i_bast, i_alen, i_keep, i_ret, i_retz, i_reta, i_retl, i_retv, i_callv, i_callk, i_calls, i_mm, i_copy, i_under, i_undld, i_ldcs, i_sw, q_swc0, q_swc1, q_lg0, q_lg1, q_lent0, q_lent1, lset, lset2, q_lins0, q_lins1, q_ldel0, q_ldel1, q_ldel20, q_ldel21, q_lkeep0, q_lkeep1, q_memb0, q_memb1, cat2, Nat.reduceBEq, decide_true, decide_false, decide_eq_true_eq, cond_true, cond_false, Bool.and_true, Bool.and_false, Bool.true_and, Bool.false_and, f_iadd, f_isub, f_imul, f_ishl, f_ishr, f_iushr, f_iand, f_ior, f_idiv, f_irem, f_ineg, f_i2b, f_i2s, f_ladd, f_lmul, c_eq, c_ne, c_lt, c_ge, c_gt, c_le, cc_eq, cc_ne, cc_lt, cc_ge, cc_gt, cc_le, rfo, aof, csum, Value.category, List.take, List.drop, List.reverse, List.reverseAux, List.map, List.sum_cons, List.sum_nil, List.cons_append, List.nil_append, Option.toList, List.mem_cons, List.not_mem_nil, List.length_cons, List.length_nil, reduceIte, Nat.reduceEqDiff, Nat.reduceAdd, Nat.reduceLeDiff, Nat.reduceLT, a_day, Nat.zero_ne_one, Nat.one_ne_zero, false_and, and_false, true_and, and_true, or_false, false_or, or_true, true_or, not_true_eq_false, not_false_eq_true, Nat.zero_add, Nat.add_zero, Nat.le_refl, Nat.lt_irrefl, Nat.zero_lt_succ, Nat.zero_le, forall_const, List.cons.injEq, Value.int.injEq, Value.ref.injEq, Value.long.injEq, and_assoc, exists_and_left, exists_eq_left']
      try simp only [forall_eq]
      refine ⟨fun z => absurd z (by decide), fun _ => ⟨c_0 hg, t3, ?_⟩⟩
      rw [ms_s]
      exact h c e
    
