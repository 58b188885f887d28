/-! ===== the class: run ===== -/
theorem dv_C52 {M M' : MM} {q : Nat} (h : Sm (XP 52) M M') (hn : dn (dv M 52) ≤ 7) (hq : q = 52) : dv M' q = dv M q := by subst hq; exact dv_P h D52 D52 hn
theorem sm_neg {w : Int32} {n : Nat} (hn : n < 100) (h : w < 10) : ¬ (0 ≤ w - 10 ∧ w - 10 < nI n) := by
  rw [i_lt, t_10] at h
  rw [i_le, i_lt, nI_toInt (by omega), t_0, Int32.toInt_sub, t_10]
  have h1 := w.le_toInt
  have h2 := w.toInt_lt
  simp only [Int.bmod]
  omega
theorem sm_pos {w : Int32} {n : Nat} (hn : n < 100) (h : 10 ≤ w) (h2 : 0 ≤ w - 10 ∧ w - 10 < nI n) : ∃ s, s < n ∧ w - 10 = nI s ∧ ¬ (0 ≤ w ∧ w ≤ 2) := by
  obtain ⟨s, hs, e⟩ := nI_of (i_not_lt.mpr h2.1)
  rw [e] at h2
  refine ⟨s, (nI_ltI hs (by omega)).mp h2.2, e, fun q => ?_⟩
  have h2' := q.2
  rw [i_le, t_10] at h
  rw [i_le, t_2] at h2'
  omega
def T_X5_run (g : WG) (as : List Value) (M : MM) (Q : Option Value → MM → Prop) : Prop := ∃ n w, as = [.ref 0, .int n, .int w] ∧ okD M 40 ∧ ∀ M', Sm YC M M' → Q (some (.int (runA (xc M) (dv M 40) n w))) M'
set_option maxRecDepth 100000 in
set_option maxHeartbeats 4000000 in
theorem t_X5_run {l : Launch} {g : WG} (hg : Full g) : Ct l g yX5_run cX5_run 9 ((Option.some FieldType.int)) 7 (T_X5_run g) := by
  refine Ct.of (by decide) (fun as M Q h => ?_) (fun p e s m args below meth c as M Q h C => ?_)
  · obtain ⟨n0, w, rfl, ho, h⟩ := h; exact ⟨by simp, by simp [Value.category]⟩
  · obtain ⟨n0, w, rfl, ho, h⟩ := h
    have hn := ho.n
    have hmany := ho.many
    obtain ⟨-, Tn, hwf, htx⟩ := id ho
    obtain ⟨D, hDe⟩ : ∃ D, dv M 40 = D := ⟨_, rfl⟩
    obtain ⟨X, hXe⟩ : ∃ X, xc M = X := ⟨_, rfl⟩
    rw [hDe] at hn hwf hmany
    rw [hDe, hXe] at h
    have hT := hwf.2.2.2.2
    have key : ∀ M' : MM, Sm YC M M' → ∀ i, dv M' 52 = pasN X D i → okD M' 52 ∧ EQ X (xc M') (pasN X D i) := by
      intro M' hs i hd
      refine ⟨okC_to D52 hs hd (wfD_pasN hwf i) htx, ?_⟩
      have := (AG_C hs hT).eq (wfD_pasN (X := X) hwf i)
      rwa [hXe] at this
    obtain ⟨I74, hI74⟩ : ∃ I : Nat → PP, I = (fun n lv st M' => ∃ k nn pl sm, n0 = nI nn ∧ nn ≤ 40 ∧ ((pl = 1 ∧ sm = -1 ∧ 0 ≤ w ∧ w ≤ 2) ∨ (pl = 0 ∧ sm = w - 10 ∧ ∃ s, s < dn D ∧ w - 10 = nI s)) ∧ runA X D n0 w = (if w = 0 then wor X (pasN X D nn) else if w = 1 then nI (dn D) - whl (pasN X D nn) (dn D) else if w = 2 then alw X D nn else wnb X D (w - 10).toNatClampNeg nn) ∧ lv = [(0, .ref 0), (1, .int (nI nn)), (2, .int w), (3, .int pl), (4, .int sm), (5, .int (alw X D k)), (6, .int (if sm < 0 then -1 else wnb X D sm.toNatClampNeg k)), (7, .int (nI k))] ∧ st = [] ∧ k ≤ nn ∧ n = nn - k ∧ Sm YC M M' ∧ dv M' 52 = pasN X D k) := ⟨_, rfl⟩
    obtain ⟨E74, hE74⟩ : ∃ E : PP, E = (fun lv st M => ∃ n, I74 n lv st M) := ⟨_, rfl⟩
    have iE74 : ∀ n lv st M, I74 n lv st M → E74 lv st M := fun n lv st M h => by rw [hE74]; exact ⟨n, h⟩
    have L74 : Sj p l e 7 s m args below meth c 9 g (MQ below (cQc g Q) args s 0 0 (gA g)) 74 E74 := by
      rw [hE74]
      refine s_ex (s_loop I74 (fun K74 k74 => WX5_run_74 C (t_X5_isDays hg) (by decide) (t_X5_isSeam hg) (by decide) (t_X0_become hg) (by decide) (t_X0_wearOn hg) (by decide) (t_X0_worth hg) (by decide) (t_X0_whole hg) (by decide) k74) ?_)
      intro n lv st M1 K74 hK74 hI; rw [hI74] at hI; obtain ⟨k, nn, pl, sm, en, hnn, hc, hr, rfl, rfl, hk, rfl, hs, hd⟩ := hI
      unfold BX5_run_74
      generalize hB87 : BX5_run_87 g Q (T_X5_isDays g) (T_X5_isSeam g) (T_X0_become g) (T_X0_wearOn g) (T_X0_worth g) (T_X0_whole g) K74 = B87
      generalize hB127 : BX5_run_127 g Q (T_X5_isDays g) (T_X5_isSeam g) (T_X0_become g) (T_X0_wearOn g) (T_X0_worth g) (T_X0_whole g) K74 = B127
      simp only [T_X5_isDays, T_X5_isSeam, T_X0_become, T_X0_wearOn, T_X0_worth, T_X0_whole, i_const, i_lconst, i_iload, i_aload, i_lload, i_istore, i_astore, i_lstore, i_iinc, i_bin, i_div, i_un, i_i2l, i_l2i, i_lbin, i_lcmp, i_if, i_icmp, i_dup, i_dup_x1, i_dup2, i_pop, i_geti, i_getr, i_getd, i_puti, i_putz, i_putd, i_iald, i_bald, i_aald, i_iast, i_bast, i_alen, i_keep, i_ret, i_retz, i_reta, i_retl, i_retv, i_callv, i_callk, i_calls, i_mm, i_copy, i_under, i_undld, i_ldcs, i_sw, q_swc0, q_swc1, q_lg0, q_lg1, q_lent0, q_lent1, lset, lset2, q_lins0, q_lins1, q_ldel0, q_ldel1, q_ldel20, q_ldel21, q_lkeep0, q_lkeep1, q_memb0, q_memb1, cat2, Nat.reduceBEq, decide_true, decide_false, decide_eq_true_eq, cond_true, cond_false, Bool.and_true, Bool.and_false, Bool.true_and, Bool.false_and, f_iadd, f_isub, f_imul, f_ishl, f_ishr, f_iushr, f_iand, f_ior, f_idiv, f_irem, f_ineg, f_i2b, f_i2s, f_ladd, f_lmul, c_eq, c_ne, c_lt, c_ge, c_gt, c_le, cc_eq, cc_ne, cc_lt, cc_ge, cc_gt, cc_le, rfo, aof, csum, Value.category, List.take, List.drop, List.reverse, List.reverseAux, List.map, List.sum_cons, List.sum_nil, List.cons_append, List.nil_append, Option.toList, List.mem_cons, List.not_mem_nil, List.length_cons, List.length_nil, reduceIte, Nat.reduceEqDiff, Nat.reduceAdd, Nat.reduceLeDiff, Nat.reduceLT, a_day, Nat.zero_ne_one, Nat.one_ne_zero, false_and, and_false, true_and, and_true, or_false, false_or, or_true, true_or, not_true_eq_false, not_false_eq_true, Nat.zero_add, Nat.add_zero, Nat.le_refl, Nat.lt_irrefl, Nat.zero_lt_succ, Nat.zero_le, forall_const, List.cons.injEq, Value.int.injEq, Value.ref.injEq, Value.long.injEq, and_assoc, exists_and_left, exists_eq_left']
      try simp only [forall_eq]
      obtain ⟨ko, kx⟩ := key M1 hs k hd
      rw [hr] at h
      have h61 := ko.many
      rw [hd, dn_pasN] at h61
      rw [nI_leI (by omega) (by omega)]
      refine ⟨fun z => ?_, fun z => ⟨c_0 hg, (c_52 hg).1, (c_52 hg).2.1, ko, fun M2 hs2 hd2 => ?_⟩⟩
      · have : k = nn := by omega
        subst this
        subst hB127
        unfold BX5_run_127
        generalize hB165 : BX5_run_165 g Q (T_X5_isDays g) (T_X5_isSeam g) (T_X0_become g) (T_X0_wearOn g) (T_X0_worth g) (T_X0_whole g) K74 = B165
        simp only [T_X5_isDays, T_X5_isSeam, T_X0_become, T_X0_wearOn, T_X0_worth, T_X0_whole, i_const, i_lconst, i_iload, i_aload, i_lload, i_istore, i_astore, i_lstore, i_iinc, i_bin, i_div, i_un, i_i2l, i_l2i, i_lbin, i_lcmp, i_if, i_icmp, i_dup, i_dup_x1, i_dup2, i_pop, i_geti, i_getr, i_getd, i_puti, i_putz, i_putd, i_iald, i_bald, i_aald, i_iast, i_bast, i_alen, i_keep, i_ret, i_retz, i_reta, i_retl, i_retv, i_callv, i_callk, i_calls, i_mm, i_copy, i_under, i_undld, i_ldcs, i_sw, q_swc0, q_swc1, q_lg0, q_lg1, q_lent0, q_lent1, lset, lset2, q_lins0, q_lins1, q_ldel0, q_ldel1, q_ldel20, q_ldel21, q_lkeep0, q_lkeep1, q_memb0, q_memb1, cat2, Nat.reduceBEq, decide_true, decide_false, decide_eq_true_eq, cond_true, cond_false, Bool.and_true, Bool.and_false, Bool.true_and, Bool.false_and, f_iadd, f_isub, f_imul, f_ishl, f_ishr, f_iushr, f_iand, f_ior, f_idiv, f_irem, f_ineg, f_i2b, f_i2s, f_ladd, f_lmul, c_eq, c_ne, c_lt, c_ge, c_gt, c_le, cc_eq, cc_ne, cc_lt, cc_ge, cc_gt, cc_le, rfo, aof, csum, Value.category, List.take, List.drop, List.reverse, List.reverseAux, List.map, List.sum_cons, List.sum_nil, List.cons_append, List.nil_append, Option.toList, List.mem_cons, List.not_mem_nil, List.length_cons, List.length_nil, reduceIte, Nat.reduceEqDiff, Nat.reduceAdd, Nat.reduceLeDiff, Nat.reduceLT, a_day, Nat.zero_ne_one, Nat.one_ne_zero, false_and, and_false, true_and, and_true, or_false, false_or, or_true, true_or, not_true_eq_false, not_false_eq_true, Nat.zero_add, Nat.add_zero, Nat.le_refl, Nat.lt_irrefl, Nat.zero_lt_succ, Nat.zero_le, forall_const, List.cons.injEq, Value.int.injEq, Value.ref.injEq, Value.long.injEq, and_assoc, exists_and_left, exists_eq_left']
        try simp only [forall_eq]
        have hx : wor (xc M1) (dv M1 52) = wor X (pasN X D k) := by rw [hd]; exact wor_e kx
        rw [h61]
        refine ⟨fun yp => ⟨fun y0 => ⟨fun y1 => ?_, fun y1 => ?_⟩, fun y0 => ?_⟩, fun yp => ?_⟩
        · have hf := h M1 hs
          rcases hc with q | q
          · have w2 : w = 2 := by
              obtain ⟨j, hj, ej⟩ := nI_of (i_not_lt.mpr q.2.2.1)
              have q2 := q.2.2.2
              rw [ej] at q2
              have := (nI_leI (b := 2) hj (by decide)).mp q2
              have : j = 0 ∨ j = 1 ∨ j = 2 := by omega
              rcases this with e | e | e <;> subst e
              · exact absurd ej y0
              · exact absurd ej y1
              · exact ej
            rw [if_neg y0, if_neg y1, if_pos w2] at hf
            exact hf
          · exact absurd q.1 yp
        · have y1 := Decidable.not_not.mp y1
          have hf := h M1 hs
          rw [if_neg y0, if_pos y1] at hf
          refine ⟨c_0 hg, c_52 hg, c_0 hg, (c_52 hg).1, (c_52 hg).2.1, D52, by rw [hd, dn_pasN], by rw [hd, dn_pasN]; exact hn, ?_⟩
          rw [hd, dn_pasN]
          subst hB165
          unfold BX5_run_165
          simp only [T_X5_isDays, T_X5_isSeam, T_X0_become, T_X0_wearOn, T_X0_worth, T_X0_whole, i_const, i_lconst, i_iload, i_aload, i_lload, i_istore, i_astore, i_lstore, i_iinc, i_bin, i_div, i_un, i_i2l, i_l2i, i_lbin, i_lcmp, i_if, i_icmp, i_dup, i_dup_x1, i_dup2, i_pop, i_geti, i_getr, i_getd, i_puti, i_putz, i_putd, i_iald, i_bald, i_aald, i_iast, i_bast, i_alen, i_keep, i_ret, i_retz, i_reta, i_retl, i_retv, i_callv, i_callk, i_calls, i_mm, i_copy, i_under, i_undld, i_ldcs, i_sw, q_swc0, q_swc1, q_lg0, q_lg1, q_lent0, q_lent1, lset, lset2, q_lins0, q_lins1, q_ldel0, q_ldel1, q_ldel20, q_ldel21, q_lkeep0, q_lkeep1, q_memb0, q_memb1, cat2, Nat.reduceBEq, decide_true, decide_false, decide_eq_true_eq, cond_true, cond_false, Bool.and_true, Bool.and_false, Bool.true_and, Bool.false_and, f_iadd, f_isub, f_imul, f_ishl, f_ishr, f_iushr, f_iand, f_ior, f_idiv, f_irem, f_ineg, f_i2b, f_i2s, f_ladd, f_lmul, c_eq, c_ne, c_lt, c_ge, c_gt, c_le, cc_eq, cc_ne, cc_lt, cc_ge, cc_gt, cc_le, rfo, aof, csum, Value.category, List.take, List.drop, List.reverse, List.reverseAux, List.map, List.sum_cons, List.sum_nil, List.cons_append, List.nil_append, Option.toList, List.mem_cons, List.not_mem_nil, List.length_cons, List.length_nil, reduceIte, Nat.reduceEqDiff, Nat.reduceAdd, Nat.reduceLeDiff, Nat.reduceLT, a_day, Nat.zero_ne_one, Nat.one_ne_zero, false_and, and_false, true_and, and_true, or_false, false_or, or_true, true_or, not_true_eq_false, not_false_eq_true, Nat.zero_add, Nat.add_zero, Nat.le_refl, Nat.lt_irrefl, Nat.zero_lt_succ, Nat.zero_le, forall_const, List.cons.injEq, Value.int.injEq, Value.ref.injEq, Value.long.injEq, and_assoc, exists_and_left, exists_eq_left']
          try simp only [forall_eq]
          exact hf
        · have y0 := Decidable.not_not.mp y0
          refine ⟨c_0 hg, (c_52 hg).1, (c_52 hg).2.1, ko, fun M2 hs2 => ?_⟩
          rw [hx]
          have hf := h M2 (hs.tr (hs2.mono fun a b q => Or.inl (XP_D q)))
          rw [if_pos y0] at hf
          exact hf
        · have hf := h M1 hs
          have yp := Decidable.not_not.mp yp
          rcases hc with q | ⟨-, esm, s, hs', es⟩
          · exact absurd q.1 (by rw [yp]; decide)
          · have hw : ¬ w = 0 ∧ ¬ w = 1 ∧ ¬ w = 2 := by
              refine ⟨fun e => ?_, fun e => ?_, fun e => ?_⟩ <;> rw [e] at es <;> have := nI_pos' (n := s) (by omega) <;> rw [← es] at this <;> exact absurd this (by decide)
            rw [if_neg hw.1, if_neg hw.2.1, if_neg hw.2.2] at hf
            rw [esm, es, if_neg (nI_pos (by omega)), nI_clamp (by omega)]
            rw [es, nI_clamp (by omega)] at hf
            exact hf
      · have hpd : pasD (xc M1) (dv M1 52) = pasN X D (k + 1) := by rw [hd, pasD_e kx]; rfl
        have hpb : pasB (xc M1) (dv M1 52) = pasB X (pasN X D k) := by rw [hd, pasB_e kx]
        rw [hpd] at hd2
        rw [hpb]
        have hs2C : Sm YC M M2 := hs.tr (Sm_YC hs2)
        obtain ⟨ko2, kx2⟩ := key M2 hs2C (k + 1) hd2
        have go109 : ∀ x, x = (if sm < 0 then -1 else wnb X D sm.toNatClampNeg (k + 1)) → BX5_run_109 g Q (T_X5_isDays g) (T_X5_isSeam g) (T_X0_become g) (T_X0_wearOn g) (T_X0_worth g) (T_X0_whole g) K74 [(0, .ref 0), (1, .int (nI nn)), (2, .int w), (3, .int pl), (4, .int sm), (5, .int (alw X D k)), (6, .int x), (7, .int (nI k)), (8, .int (pasB X (pasN X D k)))] [] M2 := by
          intro x hx
          subst hx
          unfold BX5_run_109
          generalize hB118 : BX5_run_118 g Q (T_X5_isDays g) (T_X5_isSeam g) (T_X0_become g) (T_X0_wearOn g) (T_X0_worth g) (T_X0_whole g) K74 = B118
          simp only [T_X0_worth, i_const, i_lconst, i_iload, i_aload, i_lload, i_istore, i_astore, i_lstore, i_iinc, i_bin, i_div, i_un, i_i2l, i_l2i, i_lbin, i_lcmp, i_if, i_icmp, i_dup, i_dup_x1, i_dup2, i_pop, i_geti, i_getr, i_getd, i_puti, i_putz, i_putd, i_iald, i_bald, i_aald, i_iast, i_bast, i_alen, i_keep, i_ret, i_retz, i_reta, i_retl, i_retv, i_callv, i_callk, i_calls, i_mm, i_copy, i_under, i_undld, i_ldcs, i_sw, q_swc0, q_swc1, q_lg0, q_lg1, q_lent0, q_lent1, lset, lset2, q_lins0, q_lins1, q_ldel0, q_ldel1, q_ldel20, q_ldel21, q_lkeep0, q_lkeep1, q_memb0, q_memb1, cat2, Nat.reduceBEq, decide_true, decide_false, decide_eq_true_eq, cond_true, cond_false, Bool.and_true, Bool.and_false, Bool.true_and, Bool.false_and, f_iadd, f_isub, f_imul, f_ishl, f_ishr, f_iushr, f_iand, f_ior, f_idiv, f_irem, f_ineg, f_i2b, f_i2s, f_ladd, f_lmul, c_eq, c_ne, c_lt, c_ge, c_gt, c_le, cc_eq, cc_ne, cc_lt, cc_ge, cc_gt, cc_le, rfo, aof, csum, Value.category, List.take, List.drop, List.reverse, List.reverseAux, List.map, List.sum_cons, List.sum_nil, List.cons_append, List.nil_append, Option.toList, List.mem_cons, List.not_mem_nil, List.length_cons, List.length_nil, reduceIte, Nat.reduceEqDiff, Nat.reduceAdd, Nat.reduceLeDiff, Nat.reduceLT, a_day, Nat.zero_ne_one, Nat.one_ne_zero, false_and, and_false, true_and, and_true, or_false, false_or, or_true, true_or, not_true_eq_false, not_false_eq_true, Nat.zero_add, Nat.add_zero, Nat.le_refl, Nat.lt_irrefl, Nat.zero_lt_succ, Nat.zero_le, forall_const, List.cons.injEq, Value.int.injEq, Value.ref.injEq, Value.long.injEq, and_assoc, exists_and_left, exists_eq_left']
          refine ⟨c_0 hg, (c_52 hg).1, (c_52 hg).2.1, ko2, fun M3 hs3 => ?_⟩
          subst hB118
          unfold BX5_run_118
          simp only [T_X5_isDays, T_X5_isSeam, T_X0_become, T_X0_wearOn, T_X0_worth, T_X0_whole, i_const, i_lconst, i_iload, i_aload, i_lload, i_istore, i_astore, i_lstore, i_iinc, i_bin, i_div, i_un, i_i2l, i_l2i, i_lbin, i_lcmp, i_if, i_icmp, i_dup, i_dup_x1, i_dup2, i_pop, i_geti, i_getr, i_getd, i_puti, i_putz, i_putd, i_iald, i_bald, i_aald, i_iast, i_bast, i_alen, i_keep, i_ret, i_retz, i_reta, i_retl, i_retv, i_callv, i_callk, i_calls, i_mm, i_copy, i_under, i_undld, i_ldcs, i_sw, q_swc0, q_swc1, q_lg0, q_lg1, q_lent0, q_lent1, lset, lset2, q_lins0, q_lins1, q_ldel0, q_ldel1, q_ldel20, q_ldel21, q_lkeep0, q_lkeep1, q_memb0, q_memb1, cat2, Nat.reduceBEq, decide_true, decide_false, decide_eq_true_eq, cond_true, cond_false, Bool.and_true, Bool.and_false, Bool.true_and, Bool.false_and, f_iadd, f_isub, f_imul, f_ishl, f_ishr, f_iushr, f_iand, f_ior, f_idiv, f_irem, f_ineg, f_i2b, f_i2s, f_ladd, f_lmul, c_eq, c_ne, c_lt, c_ge, c_gt, c_le, cc_eq, cc_ne, cc_lt, cc_ge, cc_gt, cc_le, rfo, aof, csum, Value.category, List.take, List.drop, List.reverse, List.reverseAux, List.map, List.sum_cons, List.sum_nil, List.cons_append, List.nil_append, Option.toList, List.mem_cons, List.not_mem_nil, List.length_cons, List.length_nil, reduceIte, Nat.reduceEqDiff, Nat.reduceAdd, Nat.reduceLeDiff, Nat.reduceLT, a_day, Nat.zero_ne_one, Nat.one_ne_zero, false_and, and_false, true_and, and_true, or_false, false_or, or_true, true_or, not_true_eq_false, not_false_eq_true, Nat.zero_add, Nat.add_zero, Nat.le_refl, Nat.lt_irrefl, Nat.zero_lt_succ, Nat.zero_le, forall_const, List.cons.injEq, Value.int.injEq, Value.ref.injEq, Value.long.injEq, and_assoc, exists_and_left, exists_eq_left']
          try simp only [forall_eq]
          rw [hd2, wor_e kx2, nI_1]
          refine hK74 (nn - (k + 1)) _ _ _ (by omega) ?_
          rw [hI74]
          exact ⟨k + 1, nn, pl, sm, en, hnn, hc, hr, rfl, rfl, by omega, rfl, hs2C.tr (hs3.mono fun a b q => Or.inl (XP_D q)), by rw [dv_C52 hs3 ko2.n rfl]; exact hd2⟩
        subst hB87
        unfold BX5_run_87
        generalize hB109 : BX5_run_109 g Q (T_X5_isDays g) (T_X5_isSeam g) (T_X0_become g) (T_X0_wearOn g) (T_X0_worth g) (T_X0_whole g) K74 = B109
        simp only [T_X5_isDays, T_X5_isSeam, T_X0_become, T_X0_wearOn, T_X0_worth, T_X0_whole, i_const, i_lconst, i_iload, i_aload, i_lload, i_istore, i_astore, i_lstore, i_iinc, i_bin, i_div, i_un, i_i2l, i_l2i, i_lbin, i_lcmp, i_if, i_icmp, i_dup, i_dup_x1, i_dup2, i_pop, i_geti, i_getr, i_getd, i_puti, i_putz, i_putd, i_iald, i_bald, i_aald, i_iast, i_bast, i_alen, i_keep, i_ret, i_retz, i_reta, i_retl, i_retv, i_callv, i_callk, i_calls, i_mm, i_copy, i_under, i_undld, i_ldcs, i_sw, q_swc0, q_swc1, q_lg0, q_lg1, q_lent0, q_lent1, lset, lset2, q_lins0, q_lins1, q_ldel0, q_ldel1, q_ldel20, q_ldel21, q_lkeep0, q_lkeep1, q_memb0, q_memb1, cat2, Nat.reduceBEq, decide_true, decide_false, decide_eq_true_eq, cond_true, cond_false, Bool.and_true, Bool.and_false, Bool.true_and, Bool.false_and, f_iadd, f_isub, f_imul, f_ishl, f_ishr, f_iushr, f_iand, f_ior, f_idiv, f_irem, f_ineg, f_i2b, f_i2s, f_ladd, f_lmul, c_eq, c_ne, c_lt, c_ge, c_gt, c_le, cc_eq, cc_ne, cc_lt, cc_ge, cc_gt, cc_le, rfo, aof, csum, Value.category, List.take, List.drop, List.reverse, List.reverseAux, List.map, List.sum_cons, List.sum_nil, List.cons_append, List.nil_append, Option.toList, List.mem_cons, List.not_mem_nil, List.length_cons, List.length_nil, reduceIte, Nat.reduceEqDiff, Nat.reduceAdd, Nat.reduceLeDiff, Nat.reduceLT, a_day, Nat.zero_ne_one, Nat.one_ne_zero, false_and, and_false, true_and, and_true, or_false, false_or, or_true, true_or, not_true_eq_false, not_false_eq_true, Nat.zero_add, Nat.add_zero, Nat.le_refl, Nat.lt_irrefl, Nat.zero_lt_succ, Nat.zero_le, forall_const, List.cons.injEq, Value.int.injEq, Value.ref.injEq, Value.long.injEq, and_assoc, exists_and_left, exists_eq_left']
        try simp only [forall_eq]
        refine ⟨fun y => ?_, fun y => ⟨fun u => ?_, fun u => ?_⟩⟩
        · subst hB109
          refine go109 _ ?_
          rw [if_pos y, if_pos y]
        · have c : ∃ s, s < dn D ∧ sm = nI s := by
            rcases hc with q | ⟨-, esm, s, hs', es⟩
            · rw [q.2.1] at y; exact absurd (by decide) y
            · exact ⟨s, hs', esm.trans es⟩
          obtain ⟨s, hs', es⟩ := c
          subst hB109
          refine go109 _ ?_
          rw [es] at u ⊢
          rw [if_neg (nI_pos (by omega)), if_neg (nI_pos (by omega)), nI_clamp (by omega)]
          simp only [wnb]; rw [if_neg u]
        · have c : ∃ s, s < dn D ∧ sm = nI s := by
            rcases hc with q | ⟨-, esm, s, hs', es⟩
            · rw [q.2.1] at y; exact absurd (by decide) y
            · exact ⟨s, hs', esm.trans es⟩
          obtain ⟨s, hs', es⟩ := c
          subst hB109
          refine go109 _ ?_
          have u := Decidable.not_not.mp u
          rw [es] at u ⊢
          rw [if_neg (nI_pos (by omega)), nI_clamp (by omega)]
          simp only [wnb]; rw [if_pos u]
      
    refine s_of (fun lv st M0 hs => ?_) (WX5_run_0 C (t_X5_isDays hg) (by decide) (t_X5_isSeam hg) (by decide) (t_X0_become hg) (by decide) (t_X0_wearOn hg) (by decide) (t_X0_worth hg) (by decide) (t_X0_whole hg) (by decide) L74)
    obtain ⟨rfl, rfl, rfl⟩ := hs
    unfold BX5_run_0
    generalize hB13 : BX5_run_13 g Q (T_X5_isDays g) (T_X5_isSeam g) (T_X0_become g) (T_X0_wearOn g) (T_X0_worth g) (T_X0_whole g) E74 = B13
    generalize hB14 : BX5_run_14 g Q (T_X5_isDays g) (T_X5_isSeam g) (T_X0_become g) (T_X0_wearOn g) (T_X0_worth g) (T_X0_whole g) E74 = B14
    simp only [T_X5_isDays, T_X5_isSeam, T_X0_become, T_X0_wearOn, T_X0_worth, T_X0_whole, i_const, i_lconst, i_iload, i_aload, i_lload, i_istore, i_astore, i_lstore, i_iinc, i_bin, i_div, i_un, i_i2l, i_l2i, i_lbin, i_lcmp, i_if, i_icmp, i_dup, i_dup_x1, i_dup2, i_pop, i_geti, i_getr, i_getd, i_puti, i_putz, i_putd, i_iald, i_bald, i_aald, i_iast, i_bast, i_alen, i_keep, i_ret, i_retz, i_reta, i_retl, i_retv, i_callv, i_callk, i_calls, i_mm, i_copy, i_under, i_undld, i_ldcs, i_sw, q_swc0, q_swc1, q_lg0, q_lg1, q_lent0, q_lent1, lset, lset2, q_lins0, q_lins1, q_ldel0, q_ldel1, q_ldel20, q_ldel21, q_lkeep0, q_lkeep1, q_memb0, q_memb1, cat2, Nat.reduceBEq, decide_true, decide_false, decide_eq_true_eq, cond_true, cond_false, Bool.and_true, Bool.and_false, Bool.true_and, Bool.false_and, f_iadd, f_isub, f_imul, f_ishl, f_ishr, f_iushr, f_iand, f_ior, f_idiv, f_irem, f_ineg, f_i2b, f_i2s, f_ladd, f_lmul, c_eq, c_ne, c_lt, c_ge, c_gt, c_le, cc_eq, cc_ne, cc_lt, cc_ge, cc_gt, cc_le, rfo, aof, csum, Value.category, List.take, List.drop, List.reverse, List.reverseAux, List.map, List.sum_cons, List.sum_nil, List.cons_append, List.nil_append, Option.toList, List.mem_cons, List.not_mem_nil, List.length_cons, List.length_nil, reduceIte, Nat.reduceEqDiff, Nat.reduceAdd, Nat.reduceLeDiff, Nat.reduceLT, a_day, Nat.zero_ne_one, Nat.one_ne_zero, false_and, and_false, true_and, and_true, or_false, false_or, or_true, true_or, not_true_eq_false, not_false_eq_true, Nat.zero_add, Nat.add_zero, Nat.le_refl, Nat.lt_irrefl, Nat.zero_lt_succ, Nat.zero_le, forall_const, List.cons.injEq, Value.int.injEq, Value.ref.injEq, Value.long.injEq, and_assoc, exists_and_left, exists_eq_left']
    try simp only [forall_eq]
    have bad : ¬ ((0 ≤ n0 ∧ n0 ≤ 40) ∧ ((0 ≤ w ∧ w ≤ 2) ∨ (0 ≤ w - 10 ∧ w - 10 < nI (dn D)))) → Q (some (.int (-1000000))) M0 := fun c => by
      have := h M0 Sm.rf
      rwa [runA, if_neg c] at this
    have go54 : ∀ pl sm, (0 ≤ n0 ∧ n0 ≤ 40) → ((pl = 1 ∧ sm = -1 ∧ 0 ≤ w ∧ w ≤ 2) ∨ (pl = 0 ∧ sm = w - 10 ∧ ∃ s, s < dn D ∧ w - 10 = nI s)) → BX5_run_54 g Q (T_X5_isDays g) (T_X5_isSeam g) (T_X0_become g) (T_X0_wearOn g) (T_X0_worth g) (T_X0_whole g) E74 [(0, .ref 0), (1, .int n0), (2, .int w), (3, .int pl), (4, .int sm)] [] M0 := by
      intro pl sm c1 c2
      obtain ⟨nn, hn31, en⟩ := nI_of (i_not_lt.mpr c1.1)
      have hnn : nn ≤ 40 := by
        have := c1.2
        rw [en] at this
        exact (nI_leI (b := 40) hn31 (by decide)).mp this
      unfold BX5_run_54
      generalize hB65 : BX5_run_65 g Q (T_X5_isDays g) (T_X5_isSeam g) (T_X0_become g) (T_X0_wearOn g) (T_X0_worth g) (T_X0_whole g) E74 = B65
      simp only [T_X0_become, i_const, i_lconst, i_iload, i_aload, i_lload, i_istore, i_astore, i_lstore, i_iinc, i_bin, i_div, i_un, i_i2l, i_l2i, i_lbin, i_lcmp, i_if, i_icmp, i_dup, i_dup_x1, i_dup2, i_pop, i_geti, i_getr, i_getd, i_puti, i_putz, i_putd, i_iald, i_bald, i_aald, i_iast, i_bast, i_alen, i_keep, i_ret, i_retz, i_reta, i_retl, i_retv, i_callv, i_callk, i_calls, i_mm, i_copy, i_under, i_undld, i_ldcs, i_sw, q_swc0, q_swc1, q_lg0, q_lg1, q_lent0, q_lent1, lset, lset2, q_lins0, q_lins1, q_ldel0, q_ldel1, q_ldel20, q_ldel21, q_lkeep0, q_lkeep1, q_memb0, q_memb1, cat2, Nat.reduceBEq, decide_true, decide_false, decide_eq_true_eq, cond_true, cond_false, Bool.and_true, Bool.and_false, Bool.true_and, Bool.false_and, f_iadd, f_isub, f_imul, f_ishl, f_ishr, f_iushr, f_iand, f_ior, f_idiv, f_irem, f_ineg, f_i2b, f_i2s, f_ladd, f_lmul, c_eq, c_ne, c_lt, c_ge, c_gt, c_le, cc_eq, cc_ne, cc_lt, cc_ge, cc_gt, cc_le, rfo, aof, csum, Value.category, List.take, List.drop, List.reverse, List.reverseAux, List.map, List.sum_cons, List.sum_nil, List.cons_append, List.nil_append, Option.toList, List.mem_cons, List.not_mem_nil, List.length_cons, List.length_nil, reduceIte, Nat.reduceEqDiff, Nat.reduceAdd, Nat.reduceLeDiff, Nat.reduceLT, a_day, Nat.zero_ne_one, Nat.one_ne_zero, false_and, and_false, true_and, and_true, or_false, false_or, or_true, true_or, not_true_eq_false, not_false_eq_true, Nat.zero_add, Nat.add_zero, Nat.le_refl, Nat.lt_irrefl, Nat.zero_lt_succ, Nat.zero_le, forall_const, List.cons.injEq, Value.int.injEq, Value.ref.injEq, Value.long.injEq, and_assoc, exists_and_left, exists_eq_left']
      refine ⟨c_0 hg, c_0 hg, (c_52 hg).1, (c_52 hg).2.1, D52, ho, fun M1 hs1 hd1 => ?_⟩
      subst hB65
      unfold BX5_run_65
      simp only [T_X5_isDays, T_X5_isSeam, T_X0_become, T_X0_wearOn, T_X0_worth, T_X0_whole, i_const, i_lconst, i_iload, i_aload, i_lload, i_istore, i_astore, i_lstore, i_iinc, i_bin, i_div, i_un, i_i2l, i_l2i, i_lbin, i_lcmp, i_if, i_icmp, i_dup, i_dup_x1, i_dup2, i_pop, i_geti, i_getr, i_getd, i_puti, i_putz, i_putd, i_iald, i_bald, i_aald, i_iast, i_bast, i_alen, i_keep, i_ret, i_retz, i_reta, i_retl, i_retv, i_callv, i_callk, i_calls, i_mm, i_copy, i_under, i_undld, i_ldcs, i_sw, q_swc0, q_swc1, q_lg0, q_lg1, q_lent0, q_lent1, lset, lset2, q_lins0, q_lins1, q_ldel0, q_ldel1, q_ldel20, q_ldel21, q_lkeep0, q_lkeep1, q_memb0, q_memb1, cat2, Nat.reduceBEq, decide_true, decide_false, decide_eq_true_eq, cond_true, cond_false, Bool.and_true, Bool.and_false, Bool.true_and, Bool.false_and, f_iadd, f_isub, f_imul, f_ishl, f_ishr, f_iushr, f_iand, f_ior, f_idiv, f_irem, f_ineg, f_i2b, f_i2s, f_ladd, f_lmul, c_eq, c_ne, c_lt, c_ge, c_gt, c_le, cc_eq, cc_ne, cc_lt, cc_ge, cc_gt, cc_le, rfo, aof, csum, Value.category, List.take, List.drop, List.reverse, List.reverseAux, List.map, List.sum_cons, List.sum_nil, List.cons_append, List.nil_append, Option.toList, List.mem_cons, List.not_mem_nil, List.length_cons, List.length_nil, reduceIte, Nat.reduceEqDiff, Nat.reduceAdd, Nat.reduceLeDiff, Nat.reduceLT, a_day, Nat.zero_ne_one, Nat.one_ne_zero, false_and, and_false, true_and, and_true, or_false, false_or, or_true, true_or, not_true_eq_false, not_false_eq_true, Nat.zero_add, Nat.add_zero, Nat.le_refl, Nat.lt_irrefl, Nat.zero_lt_succ, Nat.zero_le, forall_const, List.cons.injEq, Value.int.injEq, Value.ref.injEq, Value.long.injEq, and_assoc, exists_and_left, exists_eq_left']
      try simp only [forall_eq]
      refine iE74 (nn - 0) _ _ _ ?_
      rw [hI74]
      refine ⟨0, nn, pl, sm, en, hnn, c2, ?_, ?_, rfl, by omega, rfl, Sm_YC hs1, by rw [hd1, hDe]; rfl⟩
      · unfold runA
        rw [if_pos, en, nI_clamp hn31]
        refine ⟨c1, ?_⟩
        rcases c2 with q | ⟨-, -, s, hs, e⟩
        · exact Or.inl q.2.2
        · exact Or.inr (by rw [e]; exact ⟨nI_pos' (by omega), (nI_ltI (by omega) (by omega)).mpr hs⟩)
      · rw [en]
        have : (if sm < 0 then (-1 : Int32) else wnb X D sm.toNatClampNeg 0) = -1 := by split <;> rfl
        rw [this]; rfl
    have go29 : ∀ pl sm, ((pl = 1 ∧ 0 ≤ w ∧ w ≤ 2) ∨ (pl = 0 ∧ ¬ (0 ≤ w ∧ w ≤ 2))) → ((w < 10 ∧ sm = -1) ∨ (10 ≤ w ∧ sm = w - 10)) → BX5_run_29 g Q (T_X5_isDays g) (T_X5_isSeam g) (T_X0_become g) (T_X0_wearOn g) (T_X0_worth g) (T_X0_whole g) E74 [(0, .ref 0), (1, .int n0), (2, .int w), (3, .int pl)] [.int sm] M0 := by
      intro pl sm cp cs
      unfold BX5_run_29
      generalize hB35 : BX5_run_35 g Q (T_X5_isDays g) (T_X5_isSeam g) (T_X0_become g) (T_X0_wearOn g) (T_X0_worth g) (T_X0_whole g) E74 = B35
      simp only [T_X5_isDays, i_const, i_lconst, i_iload, i_aload, i_lload, i_istore, i_astore, i_lstore, i_iinc, i_bin, i_div, i_un, i_i2l, i_l2i, i_lbin, i_lcmp, i_if, i_icmp, i_dup, i_dup_x1, i_dup2, i_pop, i_geti, i_getr, i_getd, i_puti, i_putz, i_putd, i_iald, i_bald, i_aald, i_iast, i_bast, i_alen, i_keep, i_ret, i_retz, i_reta, i_retl, i_retv, i_callv, i_callk, i_calls, i_mm, i_copy, i_under, i_undld, i_ldcs, i_sw, q_swc0, q_swc1, q_lg0, q_lg1, q_lent0, q_lent1, lset, lset2, q_lins0, q_lins1, q_ldel0, q_ldel1, q_ldel20, q_ldel21, q_lkeep0, q_lkeep1, q_memb0, q_memb1, cat2, Nat.reduceBEq, decide_true, decide_false, decide_eq_true_eq, cond_true, cond_false, Bool.and_true, Bool.and_false, Bool.true_and, Bool.false_and, f_iadd, f_isub, f_imul, f_ishl, f_ishr, f_iushr, f_iand, f_ior, f_idiv, f_irem, f_ineg, f_i2b, f_i2s, f_ladd, f_lmul, c_eq, c_ne, c_lt, c_ge, c_gt, c_le, cc_eq, cc_ne, cc_lt, cc_ge, cc_gt, cc_le, rfo, aof, csum, Value.category, List.take, List.drop, List.reverse, List.reverseAux, List.map, List.sum_cons, List.sum_nil, List.cons_append, List.nil_append, Option.toList, List.mem_cons, List.not_mem_nil, List.length_cons, List.length_nil, reduceIte, Nat.reduceEqDiff, Nat.reduceAdd, Nat.reduceLeDiff, Nat.reduceLT, a_day, Nat.zero_ne_one, Nat.one_ne_zero, false_and, and_false, true_and, and_true, or_false, false_or, or_true, true_or, not_true_eq_false, not_false_eq_true, Nat.zero_add, Nat.add_zero, Nat.le_refl, Nat.lt_irrefl, Nat.zero_lt_succ, Nat.zero_le, forall_const, List.cons.injEq, Value.int.injEq, Value.ref.injEq, Value.long.injEq, and_assoc, exists_and_left, exists_eq_left']
      subst hB35
      unfold BX5_run_35
      generalize hB48 : BX5_run_48 g Q (T_X5_isDays g) (T_X5_isSeam g) (T_X0_become g) (T_X0_wearOn g) (T_X0_worth g) (T_X0_whole g) E74 = B48
      generalize hB54 : BX5_run_54 g Q (T_X5_isDays g) (T_X5_isSeam g) (T_X0_become g) (T_X0_wearOn g) (T_X0_worth g) (T_X0_whole g) E74 = B54
      simp only [T_X5_isDays, T_X5_isSeam, T_X0_become, T_X0_wearOn, T_X0_worth, T_X0_whole, i_const, i_lconst, i_iload, i_aload, i_lload, i_istore, i_astore, i_lstore, i_iinc, i_bin, i_div, i_un, i_i2l, i_l2i, i_lbin, i_lcmp, i_if, i_icmp, i_dup, i_dup_x1, i_dup2, i_pop, i_geti, i_getr, i_getd, i_puti, i_putz, i_putd, i_iald, i_bald, i_aald, i_iast, i_bast, i_alen, i_keep, i_ret, i_retz, i_reta, i_retl, i_retv, i_callv, i_callk, i_calls, i_mm, i_copy, i_under, i_undld, i_ldcs, i_sw, q_swc0, q_swc1, q_lg0, q_lg1, q_lent0, q_lent1, lset, lset2, q_lins0, q_lins1, q_ldel0, q_ldel1, q_ldel20, q_ldel21, q_lkeep0, q_lkeep1, q_memb0, q_memb1, cat2, Nat.reduceBEq, decide_true, decide_false, decide_eq_true_eq, cond_true, cond_false, Bool.and_true, Bool.and_false, Bool.true_and, Bool.false_and, f_iadd, f_isub, f_imul, f_ishl, f_ishr, f_iushr, f_iand, f_ior, f_idiv, f_irem, f_ineg, f_i2b, f_i2s, f_ladd, f_lmul, c_eq, c_ne, c_lt, c_ge, c_gt, c_le, cc_eq, cc_ne, cc_lt, cc_ge, cc_gt, cc_le, rfo, aof, csum, Value.category, List.take, List.drop, List.reverse, List.reverseAux, List.map, List.sum_cons, List.sum_nil, List.cons_append, List.nil_append, Option.toList, List.mem_cons, List.not_mem_nil, List.length_cons, List.length_nil, reduceIte, Nat.reduceEqDiff, Nat.reduceAdd, Nat.reduceLeDiff, Nat.reduceLT, a_day, Nat.zero_ne_one, Nat.one_ne_zero, false_and, and_false, true_and, and_true, or_false, false_or, or_true, true_or, not_true_eq_false, not_false_eq_true, Nat.zero_add, Nat.add_zero, Nat.le_refl, Nat.lt_irrefl, Nat.zero_lt_succ, Nat.zero_le, forall_const, List.cons.injEq, Value.int.injEq, Value.ref.injEq, Value.long.injEq, and_assoc, exists_and_left, exists_eq_left']
      try simp only [forall_eq]
      refine ⟨fun z => bad (fun q => b2n z q.1), fun z => ⟨fun y => ?_, fun y => ⟨(c_0 hg).1, (c_0 hg).2.1, dn D, by omega, hmany, ?_⟩⟩⟩
      · have y0 : pl = 0 ∨ pl = 1 := cp.elim (fun q => Or.inr q.1) (fun q => Or.inl q.1)
        rcases cp with ⟨q1, q2⟩ | ⟨q1, q2⟩
        · have s1 : sm = -1 := by
            rcases cs with q | q
            · exact q.2
            · exfalso
              have a := q.1
              have b := q2.2
              rw [i_le, t_10] at a
              rw [i_le, t_2] at b
              omega
          subst_vars
          exact go54 _ _ (b2t z) (Or.inl ⟨rfl, rfl, q2⟩)
        · exact absurd q1 y
      · have y := Decidable.not_not.mp y
        subst hB48
        unfold BX5_run_48
        generalize hB54 : BX5_run_54 g Q (T_X5_isDays g) (T_X5_isSeam g) (T_X0_become g) (T_X0_wearOn g) (T_X0_worth g) (T_X0_whole g) E74 = B54
        simp only [T_X5_isDays, T_X5_isSeam, T_X0_become, T_X0_wearOn, T_X0_worth, T_X0_whole, i_const, i_lconst, i_iload, i_aload, i_lload, i_istore, i_astore, i_lstore, i_iinc, i_bin, i_div, i_un, i_i2l, i_l2i, i_lbin, i_lcmp, i_if, i_icmp, i_dup, i_dup_x1, i_dup2, i_pop, i_geti, i_getr, i_getd, i_puti, i_putz, i_putd, i_iald, i_bald, i_aald, i_iast, i_bast, i_alen, i_keep, i_ret, i_retz, i_reta, i_retl, i_retv, i_callv, i_callk, i_calls, i_mm, i_copy, i_under, i_undld, i_ldcs, i_sw, q_swc0, q_swc1, q_lg0, q_lg1, q_lent0, q_lent1, lset, lset2, q_lins0, q_lins1, q_ldel0, q_ldel1, q_ldel20, q_ldel21, q_lkeep0, q_lkeep1, q_memb0, q_memb1, cat2, Nat.reduceBEq, decide_true, decide_false, decide_eq_true_eq, cond_true, cond_false, Bool.and_true, Bool.and_false, Bool.true_and, Bool.false_and, f_iadd, f_isub, f_imul, f_ishl, f_ishr, f_iushr, f_iand, f_ior, f_idiv, f_irem, f_ineg, f_i2b, f_i2s, f_ladd, f_lmul, c_eq, c_ne, c_lt, c_ge, c_gt, c_le, cc_eq, cc_ne, cc_lt, cc_ge, cc_gt, cc_le, rfo, aof, csum, Value.category, List.take, List.drop, List.reverse, List.reverseAux, List.map, List.sum_cons, List.sum_nil, List.cons_append, List.nil_append, Option.toList, List.mem_cons, List.not_mem_nil, List.length_cons, List.length_nil, reduceIte, Nat.reduceEqDiff, Nat.reduceAdd, Nat.reduceLeDiff, Nat.reduceLT, a_day, Nat.zero_ne_one, Nat.one_ne_zero, false_and, and_false, true_and, and_true, or_false, false_or, or_true, true_or, not_true_eq_false, not_false_eq_true, Nat.zero_add, Nat.add_zero, Nat.le_refl, Nat.lt_irrefl, Nat.zero_lt_succ, Nat.zero_le, forall_const, List.cons.injEq, Value.int.injEq, Value.ref.injEq, Value.long.injEq, and_assoc, exists_and_left, exists_eq_left']
        try simp only [forall_eq]
        have np : ¬ (0 ≤ w ∧ w ≤ 2) := by
          rcases cp with q | q
          · exact absurd q.1 (by rw [y]; decide)
          · exact q.2
        refine ⟨fun u => ?_, fun u => bad (fun q => ?_)⟩
        · have cu := b2t u
          rcases cs with q | q
          · rw [q.2] at cu; exact absurd cu.1 (by decide)
          · have e := q.2
            rw [e] at cu
            obtain ⟨s, hs, es, -⟩ := sm_pos (by omega) q.1 cu
            subst hB54
            exact go54 _ _ (b2t z) (Or.inr ⟨y, e, s, hs, es⟩)
        · have cu := b2n (Decidable.not_not.mp u)
          rcases q.2 with r | r
          · exact np r
          · rcases cs with q' | q'
            · exact sm_neg (by omega) q'.1 r
            · rw [q'.2] at cu; exact cu r
    have go14 : ∀ pl, ((pl = 1 ∧ 0 ≤ w ∧ w ≤ 2) ∨ (pl = 0 ∧ ¬ (0 ≤ w ∧ w ≤ 2))) → BX5_run_14 g Q (T_X5_isDays g) (T_X5_isSeam g) (T_X0_become g) (T_X0_wearOn g) (T_X0_worth g) (T_X0_whole g) E74 [(0, .ref 0), (1, .int n0), (2, .int w)] [.int pl] M0 := by
      intro pl cp
      unfold BX5_run_14
      generalize hB29 : BX5_run_29 g Q (T_X5_isDays g) (T_X5_isSeam g) (T_X0_become g) (T_X0_wearOn g) (T_X0_worth g) (T_X0_whole g) E74 = B29
      simp only [i_const, i_lconst, i_iload, i_aload, i_lload, i_istore, i_astore, i_lstore, i_iinc, i_bin, i_div, i_un, i_i2l, i_l2i, i_lbin, i_lcmp, i_if, i_icmp, i_dup, i_dup_x1, i_dup2, i_pop, i_geti, i_getr, i_getd, i_puti, i_putz, i_putd, i_iald, i_bald, i_aald, i_iast, i_bast, i_alen, i_keep, i_ret, i_retz, i_reta, i_retl, i_retv, i_callv, i_callk, i_calls, i_mm, i_copy, i_under, i_undld, i_ldcs, i_sw, q_swc0, q_swc1, q_lg0, q_lg1, q_lent0, q_lent1, lset, lset2, q_lins0, q_lins1, q_ldel0, q_ldel1, q_ldel20, q_ldel21, q_lkeep0, q_lkeep1, q_memb0, q_memb1, cat2, Nat.reduceBEq, decide_true, decide_false, decide_eq_true_eq, cond_true, cond_false, Bool.and_true, Bool.and_false, Bool.true_and, Bool.false_and, f_iadd, f_isub, f_imul, f_ishl, f_ishr, f_iushr, f_iand, f_ior, f_idiv, f_irem, f_ineg, f_i2b, f_i2s, f_ladd, f_lmul, c_eq, c_ne, c_lt, c_ge, c_gt, c_le, cc_eq, cc_ne, cc_lt, cc_ge, cc_gt, cc_le, rfo, aof, csum, Value.category, List.take, List.drop, List.reverse, List.reverseAux, List.map, List.sum_cons, List.sum_nil, List.cons_append, List.nil_append, Option.toList, List.mem_cons, List.not_mem_nil, List.length_cons, List.length_nil, reduceIte, Nat.reduceEqDiff, Nat.reduceAdd, Nat.reduceLeDiff, Nat.reduceLT, a_day, Nat.zero_ne_one, Nat.one_ne_zero, false_and, and_false, true_and, and_true, or_false, false_or, or_true, true_or, not_true_eq_false, not_false_eq_true, Nat.zero_add, Nat.add_zero, Nat.le_refl, Nat.lt_irrefl, Nat.zero_lt_succ, Nat.zero_le, forall_const, List.cons.injEq, Value.int.injEq, Value.ref.injEq, Value.long.injEq, and_assoc, exists_and_left, exists_eq_left', forall_eq]
      refine ⟨fun y => ?_, fun y => ?_⟩
      · subst hB29; exact go29 _ _ cp (Or.inr ⟨y, rfl⟩)
      · subst hB29; exact go29 _ _ cp (Or.inl ⟨i_not_le.mp y, rfl⟩)
    have go13 : ¬ (0 ≤ w ∧ w ≤ 2) → BX5_run_13 g Q (T_X5_isDays g) (T_X5_isSeam g) (T_X0_become g) (T_X0_wearOn g) (T_X0_worth g) (T_X0_whole g) E74 [(0, .ref 0), (1, .int n0), (2, .int w)] [] M0 := by
      intro c
      unfold BX5_run_13
      exact go14 0 (Or.inr ⟨rfl, c⟩)
    refine ⟨fun y => ?_, fun y => ⟨fun u => ?_, fun u => ?_⟩⟩
    · subst hB13; exact go13 (fun q => i_not_lt.mpr q.1 y)
    · subst hB13; exact go13 (fun q => i_not_lt.mpr q.2 u)
    · subst hB14; exact go14 1 (Or.inl ⟨rfl, i_not_lt.mp y, i_not_lt.mp u⟩)
