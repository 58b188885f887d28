/-! ===== the class: tells ===== -/
theorem mis_lt {x : Int32} (h : x = -1 ∨ 0 ≤ x) : (¬ x = -1) ↔ 0 ≤ x := by
  constructor
  · intro q; exact h.resolve_left q
  · intro q e; rw [e] at q; exact absurd q (by decide)
theorem lea_cases (p : Nat → Bool) : ∀ m v, lea p m v = -1 ∨ ∃ j, j < v + m ∧ v ≤ j ∧ lea p m v = nI j
  | 0, _ => Or.inl rfl
  | m + 1, v => by
    simp only [lea]
    split
    · exact Or.inr ⟨v, by omega, by omega, rfl⟩
    · rcases lea_cases p m (v + 1) with h | ⟨j, h1, h2, h3⟩
      · exact Or.inl h
      · exact Or.inr ⟨j, by omega, by omega, h3⟩
theorem telM_le {T a : Nat} (hT : T ≤ 6) : telM T a ≤ 100 := by unfold telM; split; omega; split; omega; split; omega; split <;> omega
def T_X5_tells (g : WG) (as : List Value) (M : MM) (Q : Option Value → MM → Prop) : Prop := ∃ (sh w : Int32) (T : Nat), as = [.ref 0, .int sh, .int w] ∧ wfD (dv M 40) T ∧ (∀ t, t < T → txOK M (8 + 4 * t)) ∧ M 0 6 = nI T ∧ (∀ i, i < 4 → ∃ n, n ≤ 40 ∧ M (32 + 2 * i) 2 = nI n) ∧ (∀ i, i < 4 → M (32 + 2 * i) 1 = -1 ∨ 0 ≤ M (32 + 2 * i) 1) ∧ ∀ M', Sm YC M M' → Q (some (.int (telA (xc M) (dv M 40) T (fun i => M (32 + 2 * i) 1) (fun i => M (32 + 2 * i) 2) (fun i j => M (33 + 2 * i) j) sh w))) M'
set_option maxRecDepth 100000 in
set_option maxHeartbeats 4000000 in
theorem t_X5_tells {l : Launch} {g : WG} (hg : Full g) : Ct l g yX5_tells cX5_tells 9 ((Option.some FieldType.int)) 8 (T_X5_tells g) := by
  refine Ct.of (by decide) (fun as M Q h => ?_) (fun p e s m args below meth c as M Q h C => ?_)
  · obtain ⟨sh, w, T, rfl, hwf, htx, h06, hsz, hso, h⟩ := h; exact ⟨by simp, by simp [Value.category]⟩
  · obtain ⟨sh, w, T, rfl, hwf, htx, h06, hsz, hso, h⟩ := h
    obtain ⟨D, hDe⟩ : ∃ D, dv M 40 = D := ⟨_, rfl⟩
    obtain ⟨X, hXe⟩ : ∃ X, xc M = X := ⟨_, rfl⟩
    have hmany0 : M 40 6 = nI (dn (dv M 40)) := hwf.1
    rw [hDe] at hwf hmany0
    rw [hDe, hXe] at h
    have hn := hwf.2.1
    have hT := hwf.2.2.2.2
    have keep : ∀ M', Sm YC M M' → okD M' 40 ∧ dv M' 40 = D := fun M' hs => by
      have e := dv_C hs (by rw [hDe]; exact hn)
      exact ⟨okC_to D40 hs (e.trans hDe) hwf htx, e.trans hDe⟩
    have keyw : ∀ M' Dv, Sm YC M M' → wfD Dv T → dv M' 52 = Dv → okD M' 52 ∧ EQ X (xc M') Dv := by
      intro M' Dv hs w2 hd
      refine ⟨okC_to D52 hs hd w2 htx, ?_⟩
      have := (AG_C hs hT).eq w2
      rwa [hXe] at this
    have row : ∀ M' : MM, Sm YC M M' → ∀ i, i < 4 → M' (32 + 2 * i) 2 = M (32 + 2 * i) 2 ∧ M' (33 + 2 * i) = M (33 + 2 * i) := fun M' hs i hi => ⟨hs _ _ (YC_no (by omega)), by funext j; exact hs _ _ (YC_no (by omega))⟩
    have h06' : ∀ M' : MM, Sm YC M M' → M' 0 6 = nI T := fun M' hs => by rw [hs _ _ (YC_no (by omega))]; exact h06
    obtain ⟨I92, hI92⟩ : ∃ I : Nat → PP, I = (fun n lv st M' => ∃ i nn k a p' v b f l, i < 4 ∧ nn ≤ 40 ∧ k < 60 ∧ a < 6 ∧ M (32 + 2 * i) 2 = nI nn ∧ (¬ a = 0 → k % 10 < dn D) ∧ p' = soB X (telF D a (k % 10)) (M (33 + 2 * i)) nn ∧ telA X D T (fun i => M (32 + 2 * i) 1) (fun i => M (32 + 2 * i) 2) (fun i j => M (33 + 2 * i) j) sh w = (if a = 3 then nI (cnt p' (telM T a) 0) else if a = 4 then lea p' (telM T a) 0 else nI (bsum p' (telM T a))) ∧ lv = [(0, .ref 0), (2, .int (nI k)), (3, .ref (32 + 2 * i)), (4, .int (nI a)), (5, .int b), (6, .int (nI f)), (7, .int l), (8, .int (nI v))] ∧ st = [] ∧ v ≤ telM T a ∧ n = telM T a - v ∧ Sm YC M M' ∧ (¬ a = 3 → ¬ a = 4 → b = nI (bsum p' v)) ∧ f + cnt p' (telM T a - v) v = cnt p' (telM T a) 0 ∧ f ≤ v ∧ (l = -1 → lea p' (telM T a - v) v = lea p' (telM T a) 0) ∧ (¬ l = -1 → l = lea p' (telM T a) 0)) := ⟨_, rfl⟩
    obtain ⟨E92, hE92⟩ : ∃ E : PP, E = (fun lv st M => ∃ n, I92 n lv st M) := ⟨_, rfl⟩
    have iE92 : ∀ n lv st M, I92 n lv st M → E92 lv st M := fun n lv st M h => by rw [hE92]; exact ⟨n, h⟩
    have L92 : Sj p l e 8 s m args below meth c 9 g (MQ below (cQc g Q) args s 0 0 (gA g)) 92 E92 := by
      rw [hE92]
      refine s_ex (s_loop I92 (fun K92 k92 => WX5_tells_92 C (t_X5_isSheet hg) (by decide) (t_X5_isAsked hg) (by decide) (t_X5_isAskedOfSeam hg) (by decide) (t_X0_become hg) (by decide) (t_X5_otherwise hg) (by decide) (t_X5_choices hg) (by decide) (t_X5_choose hg) (by decide) k92) ?_)
      intro n lv st M1 K92 hK92 hI; rw [hI92] at hI; obtain ⟨i, nn, k, a, p', v, b, f, l, hi, hnn, hk, ha, hsz', hsx, hp, hA, rfl, rfl, hv, rfl, hs, hb, hf, hfv, hl1, hl2⟩ := hI
      unfold BX5_tells_92
      generalize hB100 : BX5_tells_100 g Q (T_X5_isSheet g) (T_X5_isAsked g) (T_X5_isAskedOfSeam g) (T_X0_become g) (T_X5_otherwise g) (T_X5_choices g) (T_X5_choose g) K92 = B100
      simp only [T_X5_isSheet, T_X5_isAsked, T_X5_isAskedOfSeam, T_X0_become, T_X5_otherwise, T_X5_choices, T_X5_choose, i_const, i_lconst, i_iload, i_aload, i_lload, i_istore, i_astore, i_lstore, i_iinc, i_bin, i_div, i_un, i_i2l, i_l2i, i_lbin, i_lcmp, i_if, i_icmp, i_dup, i_dup_x1, i_dup2, i_pop, i_geti, i_getr, i_getd, i_puti, i_putz, i_putd, i_iald, i_bald, i_aald, i_iast, i_bast, i_alen, i_keep, i_ret, i_retz, i_reta, i_retl, i_retv, i_callv, i_callk, i_calls, i_mm, i_copy, i_under, i_undld, i_ldcs, i_sw, q_swc0, q_swc1, q_lg0, q_lg1, q_lent0, q_lent1, lset, lset2, q_lins0, q_lins1, q_ldel0, q_ldel1, q_ldel20, q_ldel21, q_lkeep0, q_lkeep1, q_memb0, q_memb1, cat2, Nat.reduceBEq, decide_true, decide_false, decide_eq_true_eq, cond_true, cond_false, Bool.and_true, Bool.and_false, Bool.true_and, Bool.false_and, f_iadd, f_isub, f_imul, f_ishl, f_ishr, f_iushr, f_iand, f_ior, f_idiv, f_irem, f_ineg, f_i2b, f_i2s, f_ladd, f_lmul, c_eq, c_ne, c_lt, c_ge, c_gt, c_le, cc_eq, cc_ne, cc_lt, cc_ge, cc_gt, cc_le, rfo, aof, csum, Value.category, List.take, List.drop, List.reverse, List.reverseAux, List.map, List.sum_cons, List.sum_nil, List.cons_append, List.nil_append, Option.toList, List.mem_cons, List.not_mem_nil, List.length_cons, List.length_nil, reduceIte, Nat.reduceEqDiff, Nat.reduceAdd, Nat.reduceLeDiff, Nat.reduceLT, a_day, Nat.zero_ne_one, Nat.one_ne_zero, false_and, and_false, true_and, and_true, or_false, false_or, or_true, true_or, not_true_eq_false, not_false_eq_true, Nat.zero_add, Nat.add_zero, Nat.le_refl, Nat.lt_irrefl, Nat.zero_lt_succ, Nat.zero_le, forall_const, List.cons.injEq, Value.int.injEq, Value.ref.injEq, Value.long.injEq, and_assoc, exists_and_left, exists_eq_left']
      try simp only [forall_eq]
      rw [hA] at h
      have hM := telM_le (a := a) hT
      obtain ⟨s1, s2, s3⟩ := sheet_ok hg hi
      refine ⟨(c_0 hg).1, (c_0 hg).2.1, a, rfl, ha, ?_⟩
      have hcx : (if a = 0 then M1 0 6 else nI (telM 0 a)) = nI (telM T a) := by
        unfold telM
        split
        · rw [h06' M1 hs]
        · rfl
      rw [hcx]
      subst hB100
      unfold BX5_tells_100
      generalize hB114 : BX5_tells_114 g Q (T_X5_isSheet g) (T_X5_isAsked g) (T_X5_isAskedOfSeam g) (T_X0_become g) (T_X5_otherwise g) (T_X5_choices g) (T_X5_choose g) K92 = B114
      generalize hB179 : BX5_tells_179 g Q (T_X5_isSheet g) (T_X5_isAsked g) (T_X5_isAskedOfSeam g) (T_X0_become g) (T_X5_otherwise g) (T_X5_choices g) (T_X5_choose g) K92 = B179
      simp only [T_X5_isSheet, T_X5_isAsked, T_X5_isAskedOfSeam, T_X0_become, T_X5_otherwise, T_X5_choices, T_X5_choose, i_const, i_lconst, i_iload, i_aload, i_lload, i_istore, i_astore, i_lstore, i_iinc, i_bin, i_div, i_un, i_i2l, i_l2i, i_lbin, i_lcmp, i_if, i_icmp, i_dup, i_dup_x1, i_dup2, i_pop, i_geti, i_getr, i_getd, i_puti, i_putz, i_putd, i_iald, i_bald, i_aald, i_iast, i_bast, i_alen, i_keep, i_ret, i_retz, i_reta, i_retl, i_retv, i_callv, i_callk, i_calls, i_mm, i_copy, i_under, i_undld, i_ldcs, i_sw, q_swc0, q_swc1, q_lg0, q_lg1, q_lent0, q_lent1, lset, lset2, q_lins0, q_lins1, q_ldel0, q_ldel1, q_ldel20, q_ldel21, q_lkeep0, q_lkeep1, q_memb0, q_memb1, cat2, Nat.reduceBEq, decide_true, decide_false, decide_eq_true_eq, cond_true, cond_false, Bool.and_true, Bool.and_false, Bool.true_and, Bool.false_and, f_iadd, f_isub, f_imul, f_ishl, f_ishr, f_iushr, f_iand, f_ior, f_idiv, f_irem, f_ineg, f_i2b, f_i2s, f_ladd, f_lmul, c_eq, c_ne, c_lt, c_ge, c_gt, c_le, cc_eq, cc_ne, cc_lt, cc_ge, cc_gt, cc_le, rfo, aof, csum, Value.category, List.take, List.drop, List.reverse, List.reverseAux, List.map, List.sum_cons, List.sum_nil, List.cons_append, List.nil_append, Option.toList, List.mem_cons, List.not_mem_nil, List.length_cons, List.length_nil, reduceIte, Nat.reduceEqDiff, Nat.reduceAdd, Nat.reduceLeDiff, Nat.reduceLT, a_day, Nat.zero_ne_one, Nat.one_ne_zero, false_and, and_false, true_and, and_true, or_false, false_or, or_true, true_or, not_true_eq_false, not_false_eq_true, Nat.zero_add, Nat.add_zero, Nat.le_refl, Nat.lt_irrefl, Nat.zero_lt_succ, Nat.zero_le, forall_const, List.cons.injEq, Value.int.injEq, Value.ref.injEq, Value.long.injEq, and_assoc, exists_and_left, exists_eq_left']
      try simp only [forall_eq]
      rw [nI_leI (by omega) (by omega)]
      obtain ⟨ho1, hd1⟩ := keep M1 hs
      refine ⟨fun z => ?_, fun z => ⟨c_0 hg, c_0 hg, (c_52 hg).1, (c_52 hg).2.1, D52, ho1, fun M2 hs2 hd2 => ?_⟩⟩
      · have ev : v = telM T a := by omega
        rw [ev, Nat.sub_self] at hf hl1
        rw [ev] at hb
        have hff := h M1 hs
        subst hB179
        unfold BX5_tells_179
        simp only [T_X5_isSheet, T_X5_isAsked, T_X5_isAskedOfSeam, T_X0_become, T_X5_otherwise, T_X5_choices, T_X5_choose, i_const, i_lconst, i_iload, i_aload, i_lload, i_istore, i_astore, i_lstore, i_iinc, i_bin, i_div, i_un, i_i2l, i_l2i, i_lbin, i_lcmp, i_if, i_icmp, i_dup, i_dup_x1, i_dup2, i_pop, i_geti, i_getr, i_getd, i_puti, i_putz, i_putd, i_iald, i_bald, i_aald, i_iast, i_bast, i_alen, i_keep, i_ret, i_retz, i_reta, i_retl, i_retv, i_callv, i_callk, i_calls, i_mm, i_copy, i_under, i_undld, i_ldcs, i_sw, q_swc0, q_swc1, q_lg0, q_lg1, q_lent0, q_lent1, lset, lset2, q_lins0, q_lins1, q_ldel0, q_ldel1, q_ldel20, q_ldel21, q_lkeep0, q_lkeep1, q_memb0, q_memb1, cat2, Nat.reduceBEq, decide_true, decide_false, decide_eq_true_eq, cond_true, cond_false, Bool.and_true, Bool.and_false, Bool.true_and, Bool.false_and, f_iadd, f_isub, f_imul, f_ishl, f_ishr, f_iushr, f_iand, f_ior, f_idiv, f_irem, f_ineg, f_i2b, f_i2s, f_ladd, f_lmul, c_eq, c_ne, c_lt, c_ge, c_gt, c_le, cc_eq, cc_ne, cc_lt, cc_ge, cc_gt, cc_le, rfo, aof, csum, Value.category, List.take, List.drop, List.reverse, List.reverseAux, List.map, List.sum_cons, List.sum_nil, List.cons_append, List.nil_append, Option.toList, List.mem_cons, List.not_mem_nil, List.length_cons, List.length_nil, reduceIte, Nat.reduceEqDiff, Nat.reduceAdd, Nat.reduceLeDiff, Nat.reduceLT, a_day, Nat.zero_ne_one, Nat.one_ne_zero, false_and, and_false, true_and, and_true, or_false, false_or, or_true, true_or, not_true_eq_false, not_false_eq_true, Nat.zero_add, Nat.add_zero, Nat.le_refl, Nat.lt_irrefl, Nat.zero_lt_succ, Nat.zero_le, forall_const, List.cons.injEq, Value.int.injEq, Value.ref.injEq, Value.long.injEq, and_assoc, exists_and_left, exists_eq_left']
        try simp only [forall_eq]
        have z3 : nI a = 3 ↔ a = 3 := nI_eq (b := 3) (by omega) (by decide)
        have z4 : nI a = 4 ↔ a = 4 := nI_eq (b := 4) (by omega) (by decide)
        rw [z3, z4]
        refine ⟨fun y3 => ⟨fun y4 => ?_, fun y4 => ?_⟩, fun y3 => ?_⟩
        · rw [if_neg y3, if_neg y4] at hff
          rw [hb y3 y4]; exact hff
        · rw [if_neg y3, if_pos (Decidable.not_not.mp y4)] at hff
          by_cases e : l = -1
          · rw [e]
            have := hl1 e
            rw [← this] at hff
            exact hff
          · rw [hl2 e]; exact hff
        · rw [if_pos (Decidable.not_not.mp y3), ← hf] at hff
          exact hff
      · have hlt : v < telM T a := by omega
        rw [hd1] at hd2
        have hs2C : Sm YC M M2 := hs.tr (Sm_YC hs2)
        have hw2 := wfD_tel (s := k % 10) hwf hlt
        obtain ⟨d1, d2⟩ := telN_60 hk
        subst hB114
        unfold BX5_tells_114
        generalize hB126 : BX5_tells_126 g Q (T_X5_isSheet g) (T_X5_isAsked g) (T_X5_isAskedOfSeam g) (T_X0_become g) (T_X5_otherwise g) (T_X5_choices g) (T_X5_choose g) K92 = B126
        simp only [T_X5_isSheet, T_X5_isAsked, T_X5_isAskedOfSeam, T_X0_become, T_X5_otherwise, T_X5_choices, T_X5_choose, i_const, i_lconst, i_iload, i_aload, i_lload, i_istore, i_astore, i_lstore, i_iinc, i_bin, i_div, i_un, i_i2l, i_l2i, i_lbin, i_lcmp, i_if, i_icmp, i_dup, i_dup_x1, i_dup2, i_pop, i_geti, i_getr, i_getd, i_puti, i_putz, i_putd, i_iald, i_bald, i_aald, i_iast, i_bast, i_alen, i_keep, i_ret, i_retz, i_reta, i_retl, i_retv, i_callv, i_callk, i_calls, i_mm, i_copy, i_under, i_undld, i_ldcs, i_sw, q_swc0, q_swc1, q_lg0, q_lg1, q_lent0, q_lent1, lset, lset2, q_lins0, q_lins1, q_ldel0, q_ldel1, q_ldel20, q_ldel21, q_lkeep0, q_lkeep1, q_memb0, q_memb1, cat2, Nat.reduceBEq, decide_true, decide_false, decide_eq_true_eq, cond_true, cond_false, Bool.and_true, Bool.and_false, Bool.true_and, Bool.false_and, f_iadd, f_isub, f_imul, f_ishl, f_ishr, f_iushr, f_iand, f_ior, f_idiv, f_irem, f_ineg, f_i2b, f_i2s, f_ladd, f_lmul, c_eq, c_ne, c_lt, c_ge, c_gt, c_le, cc_eq, cc_ne, cc_lt, cc_ge, cc_gt, cc_le, rfo, aof, csum, Value.category, List.take, List.drop, List.reverse, List.reverseAux, List.map, List.sum_cons, List.sum_nil, List.cons_append, List.nil_append, Option.toList, List.mem_cons, List.not_mem_nil, List.length_cons, List.length_nil, reduceIte, Nat.reduceEqDiff, Nat.reduceAdd, Nat.reduceLeDiff, Nat.reduceLT, a_day, Nat.zero_ne_one, Nat.one_ne_zero, false_and, and_false, true_and, and_true, or_false, false_or, or_true, true_or, not_true_eq_false, not_false_eq_true, Nat.zero_add, Nat.add_zero, Nat.le_refl, Nat.lt_irrefl, Nat.zero_lt_succ, Nat.zero_le, forall_const, List.cons.injEq, Value.int.injEq, Value.ref.injEq, Value.long.injEq, and_assoc, exists_and_left, exists_eq_left']
        try simp only [forall_eq]
        rw [d2]
        refine ⟨by decide, (c_0 hg).1, (c_0 hg).2.1, a, rfl, k % 10, rfl, v, rfl, ha, T, by rw [hd2]; exact hwf, hlt, fun q => by rw [hd2]; exact hsx q, fun M3 hs3 hd3 => ?_⟩
        rw [hd2] at hd3
        have hs3C : Sm YC M M3 := hs2C.tr (Sm_YC hs3)
        obtain ⟨k1, k2⟩ := keyw M3 _ hs3C hw2 hd3
        obtain ⟨r1, r2⟩ := row M3 hs3C i hi
        subst hB126
        unfold BX5_tells_126
        generalize hB131 : BX5_tells_131 g Q (T_X5_isSheet g) (T_X5_isAsked g) (T_X5_isAskedOfSeam g) (T_X0_become g) (T_X5_otherwise g) (T_X5_choices g) (T_X5_choose g) K92 = B131
        simp only [T_X5_isSheet, T_X5_isAsked, T_X5_isAskedOfSeam, T_X0_become, T_X5_otherwise, T_X5_choices, T_X5_choose, i_const, i_lconst, i_iload, i_aload, i_lload, i_istore, i_astore, i_lstore, i_iinc, i_bin, i_div, i_un, i_i2l, i_l2i, i_lbin, i_lcmp, i_if, i_icmp, i_dup, i_dup_x1, i_dup2, i_pop, i_geti, i_getr, i_getd, i_puti, i_putz, i_putd, i_iald, i_bald, i_aald, i_iast, i_bast, i_alen, i_keep, i_ret, i_retz, i_reta, i_retl, i_retv, i_callv, i_callk, i_calls, i_mm, i_copy, i_under, i_undld, i_ldcs, i_sw, q_swc0, q_swc1, q_lg0, q_lg1, q_lent0, q_lent1, lset, lset2, q_lins0, q_lins1, q_ldel0, q_ldel1, q_ldel20, q_ldel21, q_lkeep0, q_lkeep1, q_memb0, q_memb1, cat2, Nat.reduceBEq, decide_true, decide_false, decide_eq_true_eq, cond_true, cond_false, Bool.and_true, Bool.and_false, Bool.true_and, Bool.false_and, f_iadd, f_isub, f_imul, f_ishl, f_ishr, f_iushr, f_iand, f_ior, f_idiv, f_irem, f_ineg, f_i2b, f_i2s, f_ladd, f_lmul, c_eq, c_ne, c_lt, c_ge, c_gt, c_le, cc_eq, cc_ne, cc_lt, cc_ge, cc_gt, cc_le, rfo, aof, csum, Value.category, List.take, List.drop, List.reverse, List.reverseAux, List.map, List.sum_cons, List.sum_nil, List.cons_append, List.nil_append, Option.toList, List.mem_cons, List.not_mem_nil, List.length_cons, List.length_nil, reduceIte, Nat.reduceEqDiff, Nat.reduceAdd, Nat.reduceLeDiff, Nat.reduceLT, a_day, Nat.zero_ne_one, Nat.one_ne_zero, false_and, and_false, true_and, and_true, or_false, false_or, or_true, true_or, not_true_eq_false, not_false_eq_true, Nat.zero_add, Nat.add_zero, Nat.le_refl, Nat.lt_irrefl, Nat.zero_lt_succ, Nat.zero_le, forall_const, List.cons.injEq, Value.int.injEq, Value.ref.injEq, Value.long.injEq, and_assoc, exists_and_left, exists_eq_left']
        try simp only [forall_eq]
        refine ⟨(c_0 hg).1, (c_0 hg).2.1, i, rfl, hi, nn, r1.trans hsz', hnn, k1, fun M4 hs4 => ?_⟩
        rw [hd3, wrg_e k2, r2]
        have hs4C : Sm YC M M4 := hs3C.tr (Sm_YC hs4)
        have hpv : p' v = decide (wrg X (telF D a (k % 10) v) (M (33 + 2 * i)) nn 0 = -1) := by rw [hp]; rfl
        have ec : cnt p' (telM T a - v) v = (if p' v then 1 else 0) + cnt p' (telM T a - (v + 1)) (v + 1) := by rw [show telM T a - v = (telM T a - (v + 1)) + 1 by omega]; rfl
        have el : lea p' (telM T a - v) v = if p' v then nI v else lea p' (telM T a - (v + 1)) (v + 1) := by rw [show telM T a - v = (telM T a - (v + 1)) + 1 by omega]; rfl
        have fin : ∀ b' f' l', (¬ a = 3 → ¬ a = 4 → b' = nI (bsum p' (v + 1))) → f' + cnt p' (telM T a - (v + 1)) (v + 1) = cnt p' (telM T a) 0 → f' ≤ v + 1 → (l' = -1 → lea p' (telM T a - (v + 1)) (v + 1) = lea p' (telM T a) 0) → (¬ l' = -1 → l' = lea p' (telM T a) 0) → K92 [(0, .ref 0), (2, .int (nI k)), (3, .ref (32 + 2 * i)), (4, .int (nI a)), (5, .int b'), (6, .int (nI f')), (7, .int l'), (8, .int (nI (v + 1)))] [] M4 := by
          intro b' f' l' q1 q2 q3 q4 q5
          refine hK92 (telM T a - (v + 1)) _ _ _ (by omega) ?_
          rw [hI92]
          exact ⟨i, nn, k, a, p', v + 1, b', f', l', hi, hnn, hk, ha, hsz', hsx, hp, hA, rfl, rfl, by omega, rfl, hs4C, q1, q2, q3, q4, q5⟩
        subst hB131
        unfold BX5_tells_131
        generalize hB152 : BX5_tells_152 g Q (T_X5_isSheet g) (T_X5_isAsked g) (T_X5_isAskedOfSeam g) (T_X0_become g) (T_X5_otherwise g) (T_X5_choices g) (T_X5_choose g) K92 = B152
        simp only [T_X5_isSheet, T_X5_isAsked, T_X5_isAskedOfSeam, T_X0_become, T_X5_otherwise, T_X5_choices, T_X5_choose, i_const, i_lconst, i_iload, i_aload, i_lload, i_istore, i_astore, i_lstore, i_iinc, i_bin, i_div, i_un, i_i2l, i_l2i, i_lbin, i_lcmp, i_if, i_icmp, i_dup, i_dup_x1, i_dup2, i_pop, i_geti, i_getr, i_getd, i_puti, i_putz, i_putd, i_iald, i_bald, i_aald, i_iast, i_bast, i_alen, i_keep, i_ret, i_retz, i_reta, i_retl, i_retv, i_callv, i_callk, i_calls, i_mm, i_copy, i_under, i_undld, i_ldcs, i_sw, q_swc0, q_swc1, q_lg0, q_lg1, q_lent0, q_lent1, lset, lset2, q_lins0, q_lins1, q_ldel0, q_ldel1, q_ldel20, q_ldel21, q_lkeep0, q_lkeep1, q_memb0, q_memb1, cat2, Nat.reduceBEq, decide_true, decide_false, decide_eq_true_eq, cond_true, cond_false, Bool.and_true, Bool.and_false, Bool.true_and, Bool.false_and, f_iadd, f_isub, f_imul, f_ishl, f_ishr, f_iushr, f_iand, f_ior, f_idiv, f_irem, f_ineg, f_i2b, f_i2s, f_ladd, f_lmul, c_eq, c_ne, c_lt, c_ge, c_gt, c_le, cc_eq, cc_ne, cc_lt, cc_ge, cc_gt, cc_le, rfo, aof, csum, Value.category, List.take, List.drop, List.reverse, List.reverseAux, List.map, List.sum_cons, List.sum_nil, List.cons_append, List.nil_append, Option.toList, List.mem_cons, List.not_mem_nil, List.length_cons, List.length_nil, reduceIte, Nat.reduceEqDiff, Nat.reduceAdd, Nat.reduceLeDiff, Nat.reduceLT, a_day, Nat.zero_ne_one, Nat.one_ne_zero, false_and, and_false, true_and, and_true, or_false, false_or, or_true, true_or, not_true_eq_false, not_false_eq_true, Nat.zero_add, Nat.add_zero, Nat.le_refl, Nat.lt_irrefl, Nat.zero_lt_succ, Nat.zero_le, forall_const, List.cons.injEq, Value.int.injEq, Value.ref.injEq, Value.long.injEq, and_assoc, exists_and_left, exists_eq_left']
        try simp only [forall_eq]
        rw [nI_1]
        refine ⟨fun y => ?_, fun y => ?_⟩
        · have hpf : ¬ p' v = true := by rw [hpv]; simpa using y
          rw [ec, if_neg hpf, Nat.zero_add] at hf
          rw [el, if_neg hpf] at hl1
          exact fin b f l (fun q1 q2 => by rw [hb q1 q2, bsum_n hpf]) hf (by omega) hl1 hl2
        · have hpt : p' v = true := by rw [hpv]; simpa using y
          rw [ec, if_pos hpt] at hf
          rw [el, if_pos hpt] at hl1
          have go152 : ∀ x, (¬ a = 3 → ¬ a = 4 → b ||| x = nI (bsum p' (v + 1))) → BX5_tells_152 g Q (T_X5_isSheet g) (T_X5_isAsked g) (T_X5_isAskedOfSeam g) (T_X0_become g) (T_X5_otherwise g) (T_X5_choices g) (T_X5_choose g) K92 [(0, .ref 0), (2, .int (nI k)), (3, .ref (32 + 2 * i)), (4, .int (nI a)), (5, .int b), (6, .int (nI f)), (7, .int l), (8, .int (nI v))] [.int x, .int b] M4 := by
            intro x hx
            unfold BX5_tells_152
            simp only [i_const, i_lconst, i_iload, i_aload, i_lload, i_istore, i_astore, i_lstore, i_iinc, i_bin, i_div, i_un, i_i2l, i_l2i, i_lbin, i_lcmp, i_if, i_icmp, i_dup, i_dup_x1, i_dup2, i_pop, i_geti, i_getr, i_getd, i_puti, i_putz, i_putd, i_iald, i_bald, i_aald, i_iast, i_bast, i_alen, i_keep, i_ret, i_retz, i_reta, i_retl, i_retv, i_callv, i_callk, i_calls, i_mm, i_copy, i_under, i_undld, i_ldcs, i_sw, q_swc0, q_swc1, q_lg0, q_lg1, q_lent0, q_lent1, lset, lset2, q_lins0, q_lins1, q_ldel0, q_ldel1, q_ldel20, q_ldel21, q_lkeep0, q_lkeep1, q_memb0, q_memb1, cat2, Nat.reduceBEq, decide_true, decide_false, decide_eq_true_eq, cond_true, cond_false, Bool.and_true, Bool.and_false, Bool.true_and, Bool.false_and, f_iadd, f_isub, f_imul, f_ishl, f_ishr, f_iushr, f_iand, f_ior, f_idiv, f_irem, f_ineg, f_i2b, f_i2s, f_ladd, f_lmul, c_eq, c_ne, c_lt, c_ge, c_gt, c_le, cc_eq, cc_ne, cc_lt, cc_ge, cc_gt, cc_le, rfo, aof, csum, Value.category, List.take, List.drop, List.reverse, List.reverseAux, List.map, List.sum_cons, List.sum_nil, List.cons_append, List.nil_append, Option.toList, List.mem_cons, List.not_mem_nil, List.length_cons, List.length_nil, reduceIte, Nat.reduceEqDiff, Nat.reduceAdd, Nat.reduceLeDiff, Nat.reduceLT, a_day, Nat.zero_ne_one, Nat.one_ne_zero, false_and, and_false, true_and, and_true, or_false, false_or, or_true, true_or, not_true_eq_false, not_false_eq_true, Nat.zero_add, Nat.add_zero, Nat.le_refl, Nat.lt_irrefl, Nat.zero_lt_succ, Nat.zero_le, forall_const, List.cons.injEq, Value.int.injEq, Value.ref.injEq, Value.long.injEq, and_assoc, exists_and_left, exists_eq_left', forall_eq]
            rw [nI_1, nI_1]
            refine ⟨fun q => ?_, fun q => ?_⟩
            · exact fin _ (f + 1) l hx (by omega) (by omega) (fun r => absurd r q) hl2
            · have q := Decidable.not_not.mp q
              exact fin _ (f + 1) (nI v) hx (by omega) (by omega) (fun r => absurd (nI_pos' (n := v) (by omega)) (by rw [r]; decide)) (fun _ => hl1 q)
          rw [show (32 : Int32) = nI 32 from rfl, nI_leI (a := 32) (by decide) (by omega)]
          refine ⟨fun q => ?_, fun q => ?_⟩
          · subst_vars; exact go152 0 (fun q1 q2 => by
              exfalso
              unfold telM at hlt
              have : a = 0 ∨ a = 1 ∨ a = 2 ∨ a = 5 := by omega
              rcases this with e | e | e | e <;> subst e <;> simp at hlt <;> omega)
          · have h16 : ¬ a = 3 → ¬ a = 4 → v < 16 := fun q1 q2 => by
              unfold telM at hlt
              have : a = 0 ∨ a = 1 ∨ a = 2 ∨ a = 5 := by omega
              rcases this with e | e | e | e <;> subst e <;> simp at hlt <;> omega
            subst_vars; exact go152 _ (fun q1 q2 => by rw [hb q1 q2]; exact bsum_or (h16 q1 q2) hpt)
      
    refine s_of (fun lv st M0 hs => ?_) (WX5_tells_0 C (t_X5_isSheet hg) (by decide) (t_X5_isAsked hg) (by decide) (t_X5_isAskedOfSeam hg) (by decide) (t_X0_become hg) (by decide) (t_X5_otherwise hg) (by decide) (t_X5_choices hg) (by decide) (t_X5_choose hg) (by decide) L92)
    obtain ⟨rfl, rfl, rfl⟩ := hs
    unfold BX5_tells_0
    generalize hB4 : BX5_tells_4 g Q (T_X5_isSheet g) (T_X5_isAsked g) (T_X5_isAskedOfSeam g) (T_X0_become g) (T_X5_otherwise g) (T_X5_choices g) (T_X5_choose g) E92 = B4
    simp only [T_X5_isSheet, T_X5_isAsked, T_X5_isAskedOfSeam, T_X0_become, T_X5_otherwise, T_X5_choices, T_X5_choose, i_const, i_lconst, i_iload, i_aload, i_lload, i_istore, i_astore, i_lstore, i_iinc, i_bin, i_div, i_un, i_i2l, i_l2i, i_lbin, i_lcmp, i_if, i_icmp, i_dup, i_dup_x1, i_dup2, i_pop, i_geti, i_getr, i_getd, i_puti, i_putz, i_putd, i_iald, i_bald, i_aald, i_iast, i_bast, i_alen, i_keep, i_ret, i_retz, i_reta, i_retl, i_retv, i_callv, i_callk, i_calls, i_mm, i_copy, i_under, i_undld, i_ldcs, i_sw, q_swc0, q_swc1, q_lg0, q_lg1, q_lent0, q_lent1, lset, lset2, q_lins0, q_lins1, q_ldel0, q_ldel1, q_ldel20, q_ldel21, q_lkeep0, q_lkeep1, q_memb0, q_memb1, cat2, Nat.reduceBEq, decide_true, decide_false, decide_eq_true_eq, cond_true, cond_false, Bool.and_true, Bool.and_false, Bool.true_and, Bool.false_and, f_iadd, f_isub, f_imul, f_ishl, f_ishr, f_iushr, f_iand, f_ior, f_idiv, f_irem, f_ineg, f_i2b, f_i2s, f_ladd, f_lmul, c_eq, c_ne, c_lt, c_ge, c_gt, c_le, cc_eq, cc_ne, cc_lt, cc_ge, cc_gt, cc_le, rfo, aof, csum, Value.category, List.take, List.drop, List.reverse, List.reverseAux, List.map, List.sum_cons, List.sum_nil, List.cons_append, List.nil_append, Option.toList, List.mem_cons, List.not_mem_nil, List.length_cons, List.length_nil, reduceIte, Nat.reduceEqDiff, Nat.reduceAdd, Nat.reduceLeDiff, Nat.reduceLT, a_day, Nat.zero_ne_one, Nat.one_ne_zero, false_and, and_false, true_and, and_true, or_false, false_or, or_true, true_or, not_true_eq_false, not_false_eq_true, Nat.zero_add, Nat.add_zero, Nat.le_refl, Nat.lt_irrefl, Nat.zero_lt_succ, Nat.zero_le, forall_const, List.cons.injEq, Value.int.injEq, Value.ref.injEq, Value.long.injEq, and_assoc, exists_and_left, exists_eq_left']
    try simp only [forall_eq]
    have go78 : ∀ i nn k a, i < 4 → nn ≤ 40 → k < 60 → a < 6 → M0 (32 + 2 * i) 2 = nI nn → (¬ a = 0 → k % 10 < dn D) → telA X D T (fun i => M0 (32 + 2 * i) 1) (fun i => M0 (32 + 2 * i) 2) (fun i j => M0 (33 + 2 * i) j) sh w = (if a = 3 then nI (cnt (soB X (telF D a (k % 10)) (M0 (33 + 2 * i)) nn) (telM T a) 0) else if a = 4 then lea (soB X (telF D a (k % 10)) (M0 (33 + 2 * i)) nn) (telM T a) 0 else nI (bsum (soB X (telF D a (k % 10)) (M0 (33 + 2 * i)) nn) (telM T a))) → BX5_tells_78 g Q (T_X5_isSheet g) (T_X5_isAsked g) (T_X5_isAskedOfSeam g) (T_X0_become g) (T_X5_otherwise g) (T_X5_choices g) (T_X5_choose g) E92 [(0, .ref 0), (1, .int sh), (2, .int (nI k)), (3, .ref (32 + 2 * i))] [.int (nI a)] M0 := by
      intro i nn k a hi hnn hk ha hsz' hsx hA
      unfold BX5_tells_78
      simp only [i_const, i_lconst, i_iload, i_aload, i_lload, i_istore, i_astore, i_lstore, i_iinc, i_bin, i_div, i_un, i_i2l, i_l2i, i_lbin, i_lcmp, i_if, i_icmp, i_dup, i_dup_x1, i_dup2, i_pop, i_geti, i_getr, i_getd, i_puti, i_putz, i_putd, i_iald, i_bald, i_aald, i_iast, i_bast, i_alen, i_keep, i_ret, i_retz, i_reta, i_retl, i_retv, i_callv, i_callk, i_calls, i_mm, i_copy, i_under, i_undld, i_ldcs, i_sw, q_swc0, q_swc1, q_lg0, q_lg1, q_lent0, q_lent1, lset, lset2, q_lins0, q_lins1, q_ldel0, q_ldel1, q_ldel20, q_ldel21, q_lkeep0, q_lkeep1, q_memb0, q_memb1, cat2, Nat.reduceBEq, decide_true, decide_false, decide_eq_true_eq, cond_true, cond_false, Bool.and_true, Bool.and_false, Bool.true_and, Bool.false_and, f_iadd, f_isub, f_imul, f_ishl, f_ishr, f_iushr, f_iand, f_ior, f_idiv, f_irem, f_ineg, f_i2b, f_i2s, f_ladd, f_lmul, c_eq, c_ne, c_lt, c_ge, c_gt, c_le, cc_eq, cc_ne, cc_lt, cc_ge, cc_gt, cc_le, rfo, aof, csum, Value.category, List.take, List.drop, List.reverse, List.reverseAux, List.map, List.sum_cons, List.sum_nil, List.cons_append, List.nil_append, Option.toList, List.mem_cons, List.not_mem_nil, List.length_cons, List.length_nil, reduceIte, Nat.reduceEqDiff, Nat.reduceAdd, Nat.reduceLeDiff, Nat.reduceLT, a_day, Nat.zero_ne_one, Nat.one_ne_zero, false_and, and_false, true_and, and_true, or_false, false_or, or_true, true_or, not_true_eq_false, not_false_eq_true, Nat.zero_add, Nat.add_zero, Nat.le_refl, Nat.lt_irrefl, Nat.zero_lt_succ, Nat.zero_le, forall_const, List.cons.injEq, Value.int.injEq, Value.ref.injEq, Value.long.injEq, and_assoc, exists_and_left, exists_eq_left', forall_eq]
      refine iE92 (telM T a - 0) _ _ _ ?_
      rw [hI92]
      exact ⟨i, nn, k, a, _, 0, 0, 0, -1, hi, hnn, hk, ha, hsz', hsx, rfl, hA, rfl, rfl, Nat.zero_le _, rfl, Sm.rf, fun _ _ => rfl, by simp, Nat.le_refl _, fun _ => rfl, fun q => absurd rfl q⟩
    have go25 : (0 ≤ sh ∧ sh ≤ 3) → ((0 ≤ w ∧ w ≤ 1) ∨ ((10 ≤ w ∧ w ≤ 59) ∧ (0 ≤ w - w / 10 * 10 ∧ w - w / 10 * 10 < nI (dn D)))) → BX5_tells_25 g Q (T_X5_isSheet g) (T_X5_isAsked g) (T_X5_isAskedOfSeam g) (T_X0_become g) (T_X5_otherwise g) (T_X5_choices g) (T_X5_choose g) E92 [(0, .ref 0), (1, .int sh), (2, .int w)] [] M0 := by
      intro c1 c2
      obtain ⟨i, hi, hie⟩ := sh_4 c1
      obtain ⟨k, hk60, hke, hkk⟩ := tel_k hn c2
      obtain ⟨nn, h40, hn40⟩ := hsz i hi
      obtain ⟨d1, d2⟩ := telN_60 hk60
      obtain ⟨s1, s2, s3⟩ := sheet_ok hg hi
      have hA : telA X D T (fun i => M0 (32 + 2 * i) 1) (fun i => M0 (32 + 2 * i) 2) (fun i j => M0 (33 + 2 * i) j) sh w = if M0 (32 + 2 * i) 1 < 0 then -11 else telN X D T (M0 (33 + 2 * i)) nn k := by
        unfold telA
        rw [if_neg (fun q => q c1), if_pos c2, hie, hke, nI_clamp (show i < 2 ^ 31 by omega), nI_clamp (show k < 2 ^ 31 by omega)]
        dsimp only
        rw [hn40, nI_clamp (show nn < 2 ^ 31 by omega)]
      rw [hie, hke]
      unfold BX5_tells_25
      generalize hB58 : BX5_tells_58 g Q (T_X5_isSheet g) (T_X5_isAsked g) (T_X5_isAskedOfSeam g) (T_X0_become g) (T_X5_otherwise g) (T_X5_choices g) (T_X5_choose g) E92 = B58
      generalize hB78 : BX5_tells_78 g Q (T_X5_isSheet g) (T_X5_isAsked g) (T_X5_isAskedOfSeam g) (T_X0_become g) (T_X5_otherwise g) (T_X5_choices g) (T_X5_choose g) E92 = B78
      simp only [T_X0_become, i_const, i_lconst, i_iload, i_aload, i_lload, i_istore, i_astore, i_lstore, i_iinc, i_bin, i_div, i_un, i_i2l, i_l2i, i_lbin, i_lcmp, i_if, i_icmp, i_dup, i_dup_x1, i_dup2, i_pop, i_geti, i_getr, i_getd, i_puti, i_putz, i_putd, i_iald, i_bald, i_aald, i_iast, i_bast, i_alen, i_keep, i_ret, i_retz, i_reta, i_retl, i_retv, i_callv, i_callk, i_calls, i_mm, i_copy, i_under, i_undld, i_ldcs, i_sw, q_swc0, q_swc1, q_lg0, q_lg1, q_lent0, q_lent1, lset, lset2, q_lins0, q_lins1, q_ldel0, q_ldel1, q_ldel20, q_ldel21, q_lkeep0, q_lkeep1, q_memb0, q_memb1, cat2, Nat.reduceBEq, decide_true, decide_false, decide_eq_true_eq, cond_true, cond_false, Bool.and_true, Bool.and_false, Bool.true_and, Bool.false_and, f_iadd, f_isub, f_imul, f_ishl, f_ishr, f_iushr, f_iand, f_ior, f_idiv, f_irem, f_ineg, f_i2b, f_i2s, f_ladd, f_lmul, c_eq, c_ne, c_lt, c_ge, c_gt, c_le, cc_eq, cc_ne, cc_lt, cc_ge, cc_gt, cc_le, rfo, aof, csum, Value.category, List.take, List.drop, List.reverse, List.reverseAux, List.map, List.sum_cons, List.sum_nil, List.cons_append, List.nil_append, Option.toList, List.mem_cons, List.not_mem_nil, List.length_cons, List.length_nil, reduceIte, Nat.reduceEqDiff, Nat.reduceAdd, Nat.reduceLeDiff, Nat.reduceLT, a_day, Nat.zero_ne_one, Nat.one_ne_zero, false_and, and_false, true_and, and_true, or_false, false_or, or_true, true_or, not_true_eq_false, not_false_eq_true, Nat.zero_add, Nat.add_zero, Nat.le_refl, Nat.lt_irrefl, Nat.zero_lt_succ, Nat.zero_le, forall_const, List.cons.injEq, Value.int.injEq, Value.ref.injEq, Value.long.injEq, and_assoc, exists_and_left, exists_eq_left', forall_eq]
      rw [nI_clamp (show i < 2 ^ 31 by omega)]
      have e32 : (2 + (30 + 2 * i) : Nat) = 32 + 2 * i := by omega
      simp only [e32]
      refine ⟨c_0 hg, okR hg (by decide) (by decide) rfl, vp_in_nI (n := i) (N := 4) hi (by decide), s1, fun y => ?_, fun y => ?_⟩
      · have y0 := (mis_lt (hso i hi)).mp y
        rw [if_neg (i_not_lt.mpr y0)] at hA
        rw [show (10 : Int32) = nI 10 from rfl, nI_leI (a := 10) (by decide) (by omega)]
        refine ⟨fun u => ⟨fun v => ⟨by decide, ?_⟩, fun v => ?_⟩, fun u => ⟨c_0 hg, c_0 hg, (c_52 hg).1, (c_52 hg).2.1, D52, (keep M0 Sm.rf).1, fun M1 hs1 hd1 => ?_⟩⟩
        · have hk10 : 10 ≤ k ∧ k % 10 < dn D := by
            rcases hkk with q | q
            · omega
            · exact q
          rw [show (nI 10 : Int32) = 10 from rfl, d1]
          subst hB78
          rw [← hie]
          have hk5 : k / 10 = 1 ∨ k / 10 = 2 ∨ k / 10 = 3 ∨ k / 10 = 4 ∨ k / 10 = 5 := by omega
          refine go78 i nn k (k / 10) hi h40 hk60 (by omega) hn40 (fun _ => hk10.2) ?_
          rw [hA]
          unfold telN
          rw [if_neg (by omega), if_neg (by omega)]
          rcases hk5 with e | e | e | e | e <;> rw [e] <;> simp [telM]
        · have hk1 : k = 1 := by
            have : ¬ k = 0 := fun q => u (by rw [q]; rfl)
            rcases hkk with q | q
            · omega
            · omega
          subst hB78
          rw [← hie]
          refine go78 i nn k 0 hi h40 hk60 (by decide) hn40 (fun q => absurd rfl q) ?_
          have e0 : telF D 0 (k % 10) = telF D 0 0 := by funext v; simp [telF]
          rw [hA, e0]
          unfold telN
          rw [if_neg (by omega), if_pos hk1]
          simp [telM]
        · have u0 : k = 0 := (nI_eq (b := 0) (by omega) (by decide)).mp (Decidable.not_not.mp u)
          subst u0
          rw [(keep M0 Sm.rf).2] at hd1
          obtain ⟨k1, k2⟩ := keyw M1 D (Sm_YC hs1) hwf hd1
          obtain ⟨r1, r2⟩ := row M1 (Sm_YC hs1) i hi
          subst hB58
          unfold BX5_tells_58
          simp only [T_X5_isSheet, T_X5_isAsked, T_X5_isAskedOfSeam, T_X0_become, T_X5_otherwise, T_X5_choices, T_X5_choose, i_const, i_lconst, i_iload, i_aload, i_lload, i_istore, i_astore, i_lstore, i_iinc, i_bin, i_div, i_un, i_i2l, i_l2i, i_lbin, i_lcmp, i_if, i_icmp, i_dup, i_dup_x1, i_dup2, i_pop, i_geti, i_getr, i_getd, i_puti, i_putz, i_putd, i_iald, i_bald, i_aald, i_iast, i_bast, i_alen, i_keep, i_ret, i_retz, i_reta, i_retl, i_retv, i_callv, i_callk, i_calls, i_mm, i_copy, i_under, i_undld, i_ldcs, i_sw, q_swc0, q_swc1, q_lg0, q_lg1, q_lent0, q_lent1, lset, lset2, q_lins0, q_lins1, q_ldel0, q_ldel1, q_ldel20, q_ldel21, q_lkeep0, q_lkeep1, q_memb0, q_memb1, cat2, Nat.reduceBEq, decide_true, decide_false, decide_eq_true_eq, cond_true, cond_false, Bool.and_true, Bool.and_false, Bool.true_and, Bool.false_and, f_iadd, f_isub, f_imul, f_ishl, f_ishr, f_iushr, f_iand, f_ior, f_idiv, f_irem, f_ineg, f_i2b, f_i2s, f_ladd, f_lmul, c_eq, c_ne, c_lt, c_ge, c_gt, c_le, cc_eq, cc_ne, cc_lt, cc_ge, cc_gt, cc_le, rfo, aof, csum, Value.category, List.take, List.drop, List.reverse, List.reverseAux, List.map, List.sum_cons, List.sum_nil, List.cons_append, List.nil_append, Option.toList, List.mem_cons, List.not_mem_nil, List.length_cons, List.length_nil, reduceIte, Nat.reduceEqDiff, Nat.reduceAdd, Nat.reduceLeDiff, Nat.reduceLT, a_day, Nat.zero_ne_one, Nat.one_ne_zero, false_and, and_false, true_and, and_true, or_false, false_or, or_true, true_or, not_true_eq_false, not_false_eq_true, Nat.zero_add, Nat.add_zero, Nat.le_refl, Nat.lt_irrefl, Nat.zero_lt_succ, Nat.zero_le, forall_const, List.cons.injEq, Value.int.injEq, Value.ref.injEq, Value.long.injEq, and_assoc, exists_and_left, exists_eq_left']
          try simp only [forall_eq]
          refine ⟨(c_0 hg).1, (c_0 hg).2.1, i, rfl, hi, nn, r1.trans hn40, h40, k1, fun M2 hs2 => ?_⟩
          rw [hd1, wrg_e k2, r2]
          have hf := h M2 ((Sm_YC hs1).tr (Sm_YC hs2))
          rw [hA] at hf
          unfold telN at hf
          rw [if_pos rfl] at hf
          exact hf
      · have y1 : M0 (32 + 2 * i) 1 = -1 := Decidable.not_not.mp y
        have hf := h M0 Sm.rf
        rw [hA, if_pos (by rw [y1]; decide)] at hf
        exact hf
    have bad : ¬ ((0 ≤ sh ∧ sh ≤ 3) ∧ ((0 ≤ w ∧ w ≤ 1) ∨ ((10 ≤ w ∧ w ≤ 59) ∧ (0 ≤ w - w / 10 * 10 ∧ w - w / 10 * 10 < nI (dn D))))) → Q (some (.int (-2))) M0 := by
      intro c
      have := h M0 Sm.rf
      unfold telA at this
      by_cases c1 : 0 ≤ sh ∧ sh ≤ 3
      · rw [if_neg (fun q => q c1), if_neg (fun q => c ⟨c1, q⟩)] at this
        exact this
      · rw [if_pos c1] at this
        exact this
    subst hB4
    unfold BX5_tells_4
    generalize hB11 : BX5_tells_11 g Q (T_X5_isSheet g) (T_X5_isAsked g) (T_X5_isAskedOfSeam g) (T_X0_become g) (T_X5_otherwise g) (T_X5_choices g) (T_X5_choose g) E92 = B11
    simp only [T_X5_isSheet, T_X5_isAsked, T_X5_isAskedOfSeam, T_X0_become, T_X5_otherwise, T_X5_choices, T_X5_choose, i_const, i_lconst, i_iload, i_aload, i_lload, i_istore, i_astore, i_lstore, i_iinc, i_bin, i_div, i_un, i_i2l, i_l2i, i_lbin, i_lcmp, i_if, i_icmp, i_dup, i_dup_x1, i_dup2, i_pop, i_geti, i_getr, i_getd, i_puti, i_putz, i_putd, i_iald, i_bald, i_aald, i_iast, i_bast, i_alen, i_keep, i_ret, i_retz, i_reta, i_retl, i_retv, i_callv, i_callk, i_calls, i_mm, i_copy, i_under, i_undld, i_ldcs, i_sw, q_swc0, q_swc1, q_lg0, q_lg1, q_lent0, q_lent1, lset, lset2, q_lins0, q_lins1, q_ldel0, q_ldel1, q_ldel20, q_ldel21, q_lkeep0, q_lkeep1, q_memb0, q_memb1, cat2, Nat.reduceBEq, decide_true, decide_false, decide_eq_true_eq, cond_true, cond_false, Bool.and_true, Bool.and_false, Bool.true_and, Bool.false_and, f_iadd, f_isub, f_imul, f_ishl, f_ishr, f_iushr, f_iand, f_ior, f_idiv, f_irem, f_ineg, f_i2b, f_i2s, f_ladd, f_lmul, c_eq, c_ne, c_lt, c_ge, c_gt, c_le, cc_eq, cc_ne, cc_lt, cc_ge, cc_gt, cc_le, rfo, aof, csum, Value.category, List.take, List.drop, List.reverse, List.reverseAux, List.map, List.sum_cons, List.sum_nil, List.cons_append, List.nil_append, Option.toList, List.mem_cons, List.not_mem_nil, List.length_cons, List.length_nil, reduceIte, Nat.reduceEqDiff, Nat.reduceAdd, Nat.reduceLeDiff, Nat.reduceLT, a_day, Nat.zero_ne_one, Nat.one_ne_zero, false_and, and_false, true_and, and_true, or_false, false_or, or_true, true_or, not_true_eq_false, not_false_eq_true, Nat.zero_add, Nat.add_zero, Nat.le_refl, Nat.lt_irrefl, Nat.zero_lt_succ, Nat.zero_le, forall_const, List.cons.injEq, Value.int.injEq, Value.ref.injEq, Value.long.injEq, and_assoc, exists_and_left, exists_eq_left']
    try simp only [forall_eq]
    refine ⟨fun z1 => bad (fun q => b2n z1 q.1), fun z1 => ?_⟩
    subst hB11
    unfold BX5_tells_11
    generalize hB19 : BX5_tells_19 g Q (T_X5_isSheet g) (T_X5_isAsked g) (T_X5_isAskedOfSeam g) (T_X0_become g) (T_X5_otherwise g) (T_X5_choices g) (T_X5_choose g) E92 = B19
    generalize hB25 : BX5_tells_25 g Q (T_X5_isSheet g) (T_X5_isAsked g) (T_X5_isAskedOfSeam g) (T_X0_become g) (T_X5_otherwise g) (T_X5_choices g) (T_X5_choose g) E92 = B25
    simp only [T_X5_isSheet, T_X5_isAsked, T_X5_isAskedOfSeam, T_X0_become, T_X5_otherwise, T_X5_choices, T_X5_choose, i_const, i_lconst, i_iload, i_aload, i_lload, i_istore, i_astore, i_lstore, i_iinc, i_bin, i_div, i_un, i_i2l, i_l2i, i_lbin, i_lcmp, i_if, i_icmp, i_dup, i_dup_x1, i_dup2, i_pop, i_geti, i_getr, i_getd, i_puti, i_putz, i_putd, i_iald, i_bald, i_aald, i_iast, i_bast, i_alen, i_keep, i_ret, i_retz, i_reta, i_retl, i_retv, i_callv, i_callk, i_calls, i_mm, i_copy, i_under, i_undld, i_ldcs, i_sw, q_swc0, q_swc1, q_lg0, q_lg1, q_lent0, q_lent1, lset, lset2, q_lins0, q_lins1, q_ldel0, q_ldel1, q_ldel20, q_ldel21, q_lkeep0, q_lkeep1, q_memb0, q_memb1, cat2, Nat.reduceBEq, decide_true, decide_false, decide_eq_true_eq, cond_true, cond_false, Bool.and_true, Bool.and_false, Bool.true_and, Bool.false_and, f_iadd, f_isub, f_imul, f_ishl, f_ishr, f_iushr, f_iand, f_ior, f_idiv, f_irem, f_ineg, f_i2b, f_i2s, f_ladd, f_lmul, c_eq, c_ne, c_lt, c_ge, c_gt, c_le, cc_eq, cc_ne, cc_lt, cc_ge, cc_gt, cc_le, rfo, aof, csum, Value.category, List.take, List.drop, List.reverse, List.reverseAux, List.map, List.sum_cons, List.sum_nil, List.cons_append, List.nil_append, Option.toList, List.mem_cons, List.not_mem_nil, List.length_cons, List.length_nil, reduceIte, Nat.reduceEqDiff, Nat.reduceAdd, Nat.reduceLeDiff, Nat.reduceLT, a_day, Nat.zero_ne_one, Nat.one_ne_zero, false_and, and_false, true_and, and_true, or_false, false_or, or_true, true_or, not_true_eq_false, not_false_eq_true, Nat.zero_add, Nat.add_zero, Nat.le_refl, Nat.lt_irrefl, Nat.zero_lt_succ, Nat.zero_le, forall_const, List.cons.injEq, Value.int.injEq, Value.ref.injEq, Value.long.injEq, and_assoc, exists_and_left, exists_eq_left']
    try simp only [forall_eq]
    refine ⟨fun z2 => ?_, fun z2 => ?_⟩
    · subst hB25; exact go25 (b2t z1) (Or.inl (b2t z2))
    · have z2 := Decidable.not_not.mp z2
      refine ⟨(c_0 hg).1, (c_0 hg).2.1, dn D, by omega, hmany0, ?_⟩
      subst hB19
      unfold BX5_tells_19
      generalize hB25 : BX5_tells_25 g Q (T_X5_isSheet g) (T_X5_isAsked g) (T_X5_isAskedOfSeam g) (T_X0_become g) (T_X5_otherwise g) (T_X5_choices g) (T_X5_choose g) E92 = B25
      simp only [T_X5_isSheet, T_X5_isAsked, T_X5_isAskedOfSeam, T_X0_become, T_X5_otherwise, T_X5_choices, T_X5_choose, i_const, i_lconst, i_iload, i_aload, i_lload, i_istore, i_astore, i_lstore, i_iinc, i_bin, i_div, i_un, i_i2l, i_l2i, i_lbin, i_lcmp, i_if, i_icmp, i_dup, i_dup_x1, i_dup2, i_pop, i_geti, i_getr, i_getd, i_puti, i_putz, i_putd, i_iald, i_bald, i_aald, i_iast, i_bast, i_alen, i_keep, i_ret, i_retz, i_reta, i_retl, i_retv, i_callv, i_callk, i_calls, i_mm, i_copy, i_under, i_undld, i_ldcs, i_sw, q_swc0, q_swc1, q_lg0, q_lg1, q_lent0, q_lent1, lset, lset2, q_lins0, q_lins1, q_ldel0, q_ldel1, q_ldel20, q_ldel21, q_lkeep0, q_lkeep1, q_memb0, q_memb1, cat2, Nat.reduceBEq, decide_true, decide_false, decide_eq_true_eq, cond_true, cond_false, Bool.and_true, Bool.and_false, Bool.true_and, Bool.false_and, f_iadd, f_isub, f_imul, f_ishl, f_ishr, f_iushr, f_iand, f_ior, f_idiv, f_irem, f_ineg, f_i2b, f_i2s, f_ladd, f_lmul, c_eq, c_ne, c_lt, c_ge, c_gt, c_le, cc_eq, cc_ne, cc_lt, cc_ge, cc_gt, cc_le, rfo, aof, csum, Value.category, List.take, List.drop, List.reverse, List.reverseAux, List.map, List.sum_cons, List.sum_nil, List.cons_append, List.nil_append, Option.toList, List.mem_cons, List.not_mem_nil, List.length_cons, List.length_nil, reduceIte, Nat.reduceEqDiff, Nat.reduceAdd, Nat.reduceLeDiff, Nat.reduceLT, a_day, Nat.zero_ne_one, Nat.one_ne_zero, false_and, and_false, true_and, and_true, or_false, false_or, or_true, true_or, not_true_eq_false, not_false_eq_true, Nat.zero_add, Nat.add_zero, Nat.le_refl, Nat.lt_irrefl, Nat.zero_lt_succ, Nat.zero_le, forall_const, List.cons.injEq, Value.int.injEq, Value.ref.injEq, Value.long.injEq, and_assoc, exists_and_left, exists_eq_left']
      try simp only [forall_eq]
      refine ⟨fun z4 => ?_, fun z4 => bad (fun q => q.2.elim (b2n z2) (fun q => b2n (Decidable.not_not.mp z4) (and_assoc.mp q)))⟩
      subst_vars; exact go25 (b2t z1) (Or.inr (and_assoc.mpr (b2t z4)))
