/-! ===== the class's reader: its small steps, its state ===== -/
/-- the tokens of the tape: m of them, the end behind -/
def TPm (M : MM) (m : Nat) : Prop := M 3 5 = nI m ∧ m ≤ 160 ∧ M 5 m = 0 ∧ (∀ k, k < m → (M 5 k = 2 → isN (M 6 k) 10000) ∧ (M 5 k = 3 → isN (M 6 k) 6)) ∧ ∀ k, k ≤ m → isN (M 7 k) 161
/-- where it reads (i), with the fault f, into the text at r, of sz steps -/
def RSt (M : MM) (r m i sz : Nat) (f : Int32) : Prop := TPm M m ∧ M 3 6 = nI i ∧ i ≤ m ∧ M 3 7 = f ∧ M r 4 = nI sz ∧ sz ≤ 160 ∧ (f = -1 → sz ≤ i) ∧ (¬ f = -1 → i = m)
def YP (r : Nat) (a b : Nat) : Prop := (a = 3 ∧ (b = 6 ∨ b = 7)) ∨ (a = r ∧ b = 4) ∨ a = r + 1
theorem isT_8 {r : Nat} (h : isT r) : 8 ≤ r ∧ r + 3 < 32 := by obtain ⟨t, ht, rfl⟩ := h; omega
theorem YP_row {M M' : MM} {r : Nat} (hr : isT r) (h : Sm (YP r) M M') (a : Nat) (ha : a = 4 ∨ a = 5 ∨ a = 6 ∨ a = 7) : M' a = M a := by
  have := isT_8 hr
  funext j; exact h _ _ (by unfold YP; omega)
theorem TPm.keep {M M' : MM} {r m : Nat} (hr : isT r) (hs : Sm (YP r) M M') (h : TPm M m) : TPm M' m := by
  have := isT_8 hr
  unfold TPm at h ⊢
  rw [YP_row hr hs 5 (by omega), YP_row hr hs 6 (by omega), YP_row hr hs 7 (by omega), hs 3 5 (by unfold YP; omega)]
  exact h
/-- a fault was found -/
def FlO (F : Nat → Prop) (M M' : MM) (r m i : Nat) (f : Int32) : Prop := Sm (YP r) M M' ∧ ∃ f' sz', RSt M' r m m sz' f' ∧ ¬ f' = -1 ∧ (¬ f = -1 → f' = f) ∧ (f = -1 → ∃ k, i ≤ k ∧ k ≤ m ∧ F k ∧ f' = M 7 k)
/-- codes that make one number of a pile more -/
def wfc (n0 : Nat) (c : List Int32) : Prop := (∀ n, dls (c.map tr) n = some (n + n0)) ∧ ∀ x ∈ c, isN x 10015
/-- codes came -/
def GdO (G : Nat → List Int32 → Prop) (M M' : MM) (r m i sz : Nat) : Prop := Sm (YP r) M M' ∧ ∃ j c, i + 1 ≤ j ∧ RSt M' r m j (sz + c.length) (-1) ∧ c.length ≤ j - i ∧ (∀ q, q < sz → M' (r + 1) q = M (r + 1) q) ∧ (∀ q x, c[q]? = some x → M' (r + 1) (sz + q) = tr x) ∧ wfc 1 c ∧ G j c
def T_X3_go (g : WG) (as : List Value) (M : MM) (Q : Option Value → MM → Prop) : Prop := ∃ m i, as = [.ref 3] ∧ M 3 5 = nI m ∧ M 3 6 = nI i ∧ m ≤ 160 ∧ i ≤ m ∧ (i < m → Q none (mset M 3 6 (nI (i + 1)))) ∧ (i = m → Q none M)
set_option maxRecDepth 100000 in
set_option maxHeartbeats 1000000 in
theorem t_X3_go {l : Launch} {g : WG} (hr : Reg g 3 32) : Ct l g yX3_go cX3_go 1 ((Option.none : Option FieldType)) 1 (T_X3_go g) := by
  refine Ct.of (by decide) (fun as M Q h => ?_) (fun p e s m args below meth c as M Q h C => ?_)
  · obtain ⟨m', i, rfl, h5, h6, hm, hi, h1, h2⟩ := h; exact ⟨by simp, by simp [Value.category]⟩
  · obtain ⟨m', i, rfl, h5, h6, hm, hi, h1, h2⟩ := h
    refine s_of (fun lv st M0 hs => ?_) (WX3_go_0 C)
    obtain ⟨rfl, rfl, rfl⟩ := hs
    unfold BX3_go_0
    simp only [i_const, i_lconst, i_iload, i_aload, i_lload, i_istore, i_astore, i_lstore, i_iinc, i_bin, i_div, i_un, i_i2l, i_l2i, i_lbin, i_lcmp, i_if, i_icmp, i_dup, i_dup_x1, i_dup2, i_pop, i_geti, i_getr, i_getd, i_puti, i_putz, i_putd, i_iald, i_bald, i_aald, i_iast, i_bast, i_alen, i_keep, i_ret, i_retz, i_reta, i_retl, i_retv, i_callv, i_callk, i_calls, i_mm, i_copy, i_under, i_undld, i_ldcs, i_sw, q_swc0, q_swc1, q_lg0, q_lg1, q_lent0, q_lent1, lset, lset2, q_lins0, q_lins1, q_ldel0, q_ldel1, q_ldel20, q_ldel21, q_lkeep0, q_lkeep1, q_memb0, q_memb1, cat2, Nat.reduceBEq, decide_true, decide_false, decide_eq_true_eq, cond_true, cond_false, Bool.and_true, Bool.and_false, Bool.true_and, Bool.false_and, f_iadd, f_isub, f_imul, f_ishl, f_ishr, f_iushr, f_iand, f_ior, f_idiv, f_irem, f_ineg, f_i2b, f_i2s, f_ladd, f_lmul, c_eq, c_ne, c_lt, c_ge, c_gt, c_le, cc_eq, cc_ne, cc_lt, cc_ge, cc_gt, cc_le, rfo, aof, csum, Value.category, List.take, List.drop, List.reverse, List.reverseAux, List.map, List.sum_cons, List.sum_nil, List.cons_append, List.nil_append, Option.toList, List.mem_cons, List.not_mem_nil, List.length_cons, List.length_nil, reduceIte, Nat.reduceEqDiff, Nat.reduceAdd, Nat.reduceLeDiff, Nat.reduceLT, a_day, Nat.zero_ne_one, Nat.one_ne_zero, false_and, and_false, true_and, and_true, or_false, false_or, or_true, true_or, not_true_eq_false, not_false_eq_true, Nat.zero_add, Nat.add_zero, Nat.le_refl, Nat.lt_irrefl, Nat.zero_lt_succ, Nat.zero_le, forall_const, List.cons.injEq, Value.int.injEq, Value.ref.injEq, Value.long.injEq, and_assoc, exists_and_left, exists_eq_left']
    try simp only [forall_eq]
    have t3 : okq g 3 3 := okR hr (by decide) (by decide) rfl
    rw [h5, h6, nI_leI (by omega) (by omega), nI_1]
    refine ⟨t3, t3, fun y => h2 (by omega), fun y => ⟨t3, t3, h1 (by omega)⟩⟩
def T_X3_fail (g : WG) (as : List Value) (M : MM) (Q : Option Value → MM → Prop) : Prop := ∃ m i, as = [.ref 3] ∧ M 3 5 = nI m ∧ M 3 6 = nI i ∧ m ≤ 160 ∧ i ≤ m ∧ (M 3 7 = -1 → Q none (mset (mset M 3 7 (M 7 i)) 3 6 (nI m))) ∧ (¬ M 3 7 = -1 → Q none (mset M 3 6 (nI m)))
set_option maxRecDepth 100000 in
set_option maxHeartbeats 1000000 in
theorem t_X3_fail {l : Launch} {g : WG} (hr : Reg g 3 32) : Ct l g yX3_fail cX3_fail 1 ((Option.none : Option FieldType)) 1 (T_X3_fail g) := by
  refine Ct.of (by decide) (fun as M Q h => ?_) (fun p e s m args below meth c as M Q h C => ?_)
  · obtain ⟨m', i, rfl, h5, h6, hm, hi, h1, h2⟩ := h; exact ⟨by simp, by simp [Value.category]⟩
  · obtain ⟨m', i, rfl, h5, h6, hm, hi, h1, h2⟩ := h
    refine s_of (fun lv st M0 hs => ?_) (WX3_fail_0 C)
    obtain ⟨rfl, rfl, rfl⟩ := hs
    unfold BX3_fail_0
    generalize hB21 : BX3_fail_21 g Q  = B21
    simp only [i_const, i_lconst, i_iload, i_aload, i_lload, i_istore, i_astore, i_lstore, i_iinc, i_bin, i_div, i_un, i_i2l, i_l2i, i_lbin, i_lcmp, i_if, i_icmp, i_dup, i_dup_x1, i_dup2, i_pop, i_geti, i_getr, i_getd, i_puti, i_putz, i_putd, i_iald, i_bald, i_aald, i_iast, i_bast, i_alen, i_keep, i_ret, i_retz, i_reta, i_retl, i_retv, i_callv, i_callk, i_calls, i_mm, i_copy, i_under, i_undld, i_ldcs, i_sw, q_swc0, q_swc1, q_lg0, q_lg1, q_lent0, q_lent1, lset, lset2, q_lins0, q_lins1, q_ldel0, q_ldel1, q_ldel20, q_ldel21, q_lkeep0, q_lkeep1, q_memb0, q_memb1, cat2, Nat.reduceBEq, decide_true, decide_false, decide_eq_true_eq, cond_true, cond_false, Bool.and_true, Bool.and_false, Bool.true_and, Bool.false_and, f_iadd, f_isub, f_imul, f_ishl, f_ishr, f_iushr, f_iand, f_ior, f_idiv, f_irem, f_ineg, f_i2b, f_i2s, f_ladd, f_lmul, c_eq, c_ne, c_lt, c_ge, c_gt, c_le, cc_eq, cc_ne, cc_lt, cc_ge, cc_gt, cc_le, rfo, aof, csum, Value.category, List.take, List.drop, List.reverse, List.reverseAux, List.map, List.sum_cons, List.sum_nil, List.cons_append, List.nil_append, Option.toList, List.mem_cons, List.not_mem_nil, List.length_cons, List.length_nil, reduceIte, Nat.reduceEqDiff, Nat.reduceAdd, Nat.reduceLeDiff, Nat.reduceLT, a_day, Nat.zero_ne_one, Nat.one_ne_zero, false_and, and_false, true_and, and_true, or_false, false_or, or_true, true_or, not_true_eq_false, not_false_eq_true, Nat.zero_add, Nat.add_zero, Nat.le_refl, Nat.lt_irrefl, Nat.zero_lt_succ, Nat.zero_le, forall_const, List.cons.injEq, Value.int.injEq, Value.ref.injEq, Value.long.injEq, and_assoc, exists_and_left, exists_eq_left']
    try simp only [forall_eq]
    have t3 : okq g 3 3 := okR hr (by decide) (by decide) rfl
    have t7 : okq g 7 7 := okR hr (by decide) (by decide) rfl
    rw [h6, nI_clamp (by omega)]
    refine ⟨t3, fun y => ?_, fun y => ⟨t3, t3, t7, vp_in_nI (n := i) (N := 161) (by omega) (by decide), t3, ?_⟩⟩
    · subst hB21
      unfold BX3_fail_21
      simp only [i_const, i_lconst, i_iload, i_aload, i_lload, i_istore, i_astore, i_lstore, i_iinc, i_bin, i_div, i_un, i_i2l, i_l2i, i_lbin, i_lcmp, i_if, i_icmp, i_dup, i_dup_x1, i_dup2, i_pop, i_geti, i_getr, i_getd, i_puti, i_putz, i_putd, i_iald, i_bald, i_aald, i_iast, i_bast, i_alen, i_keep, i_ret, i_retz, i_reta, i_retl, i_retv, i_callv, i_callk, i_calls, i_mm, i_copy, i_under, i_undld, i_ldcs, i_sw, q_swc0, q_swc1, q_lg0, q_lg1, q_lent0, q_lent1, lset, lset2, q_lins0, q_lins1, q_ldel0, q_ldel1, q_ldel20, q_ldel21, q_lkeep0, q_lkeep1, q_memb0, q_memb1, cat2, Nat.reduceBEq, decide_true, decide_false, decide_eq_true_eq, cond_true, cond_false, Bool.and_true, Bool.and_false, Bool.true_and, Bool.false_and, f_iadd, f_isub, f_imul, f_ishl, f_ishr, f_iushr, f_iand, f_ior, f_idiv, f_irem, f_ineg, f_i2b, f_i2s, f_ladd, f_lmul, c_eq, c_ne, c_lt, c_ge, c_gt, c_le, cc_eq, cc_ne, cc_lt, cc_ge, cc_gt, cc_le, rfo, aof, csum, Value.category, List.take, List.drop, List.reverse, List.reverseAux, List.map, List.sum_cons, List.sum_nil, List.cons_append, List.nil_append, Option.toList, List.mem_cons, List.not_mem_nil, List.length_cons, List.length_nil, reduceIte, Nat.reduceEqDiff, Nat.reduceAdd, Nat.reduceLeDiff, Nat.reduceLT, a_day, Nat.zero_ne_one, Nat.one_ne_zero, false_and, and_false, true_and, and_true, or_false, false_or, or_true, true_or, not_true_eq_false, not_false_eq_true, Nat.zero_add, Nat.add_zero, Nat.le_refl, Nat.lt_irrefl, Nat.zero_lt_succ, Nat.zero_le, forall_const, List.cons.injEq, Value.int.injEq, Value.ref.injEq, Value.long.injEq, and_assoc, exists_and_left, exists_eq_left']
      try simp only [forall_eq]
      rw [h5]
      exact ⟨t3, t3, h2 y⟩
    · subst hB21
      unfold BX3_fail_21
      simp only [i_const, i_lconst, i_iload, i_aload, i_lload, i_istore, i_astore, i_lstore, i_iinc, i_bin, i_div, i_un, i_i2l, i_l2i, i_lbin, i_lcmp, i_if, i_icmp, i_dup, i_dup_x1, i_dup2, i_pop, i_geti, i_getr, i_getd, i_puti, i_putz, i_putd, i_iald, i_bald, i_aald, i_iast, i_bast, i_alen, i_keep, i_ret, i_retz, i_reta, i_retl, i_retv, i_callv, i_callk, i_calls, i_mm, i_copy, i_under, i_undld, i_ldcs, i_sw, q_swc0, q_swc1, q_lg0, q_lg1, q_lent0, q_lent1, lset, lset2, q_lins0, q_lins1, q_ldel0, q_ldel1, q_ldel20, q_ldel21, q_lkeep0, q_lkeep1, q_memb0, q_memb1, cat2, Nat.reduceBEq, decide_true, decide_false, decide_eq_true_eq, cond_true, cond_false, Bool.and_true, Bool.and_false, Bool.true_and, Bool.false_and, f_iadd, f_isub, f_imul, f_ishl, f_ishr, f_iushr, f_iand, f_ior, f_idiv, f_irem, f_ineg, f_i2b, f_i2s, f_ladd, f_lmul, c_eq, c_ne, c_lt, c_ge, c_gt, c_le, cc_eq, cc_ne, cc_lt, cc_ge, cc_gt, cc_le, rfo, aof, csum, Value.category, List.take, List.drop, List.reverse, List.reverseAux, List.map, List.sum_cons, List.sum_nil, List.cons_append, List.nil_append, Option.toList, List.mem_cons, List.not_mem_nil, List.length_cons, List.length_nil, reduceIte, Nat.reduceEqDiff, Nat.reduceAdd, Nat.reduceLeDiff, Nat.reduceLT, a_day, Nat.zero_ne_one, Nat.one_ne_zero, false_and, and_false, true_and, and_true, or_false, false_or, or_true, true_or, not_true_eq_false, not_false_eq_true, Nat.zero_add, Nat.add_zero, Nat.le_refl, Nat.lt_irrefl, Nat.zero_lt_succ, Nat.zero_le, forall_const, List.cons.injEq, Value.int.injEq, Value.ref.injEq, Value.long.injEq, and_assoc, exists_and_left, exists_eq_left']
      try simp only [forall_eq]
      have e : mset M0 3 7 (M0 7 i) 3 5 = nI m' := by rw [ms_j (by decide)]; exact h5
      rw [e]
      exact ⟨t3, t3, h1 (Decidable.not_not.mp y)⟩
def T_X3_expect (g : WG) (as : List Value) (M : MM) (Q : Option Value → MM → Prop) : Prop := ∃ s m i, as = [.ref 3, .int s] ∧ M 3 5 = nI m ∧ M 3 6 = nI i ∧ m ≤ 160 ∧ i ≤ m ∧ (M 5 i = s → i < m → Q none (mset M 3 6 (nI (i + 1)))) ∧ (M 5 i = s → i = m → Q none M) ∧ (¬ M 5 i = s → M 3 7 = -1 → Q none (mset (mset M 3 7 (M 7 i)) 3 6 (nI m))) ∧ (¬ M 5 i = s → ¬ M 3 7 = -1 → Q none (mset M 3 6 (nI m)))
set_option maxRecDepth 100000 in
set_option maxHeartbeats 1000000 in
theorem t_X3_expect {l : Launch} {g : WG} (hr : Reg g 3 32) : Ct l g yX3_expect cX3_expect 2 ((Option.none : Option FieldType)) 2 (T_X3_expect g) := by
  refine Ct.of (by decide) (fun as M Q h => ?_) (fun p e s m args below meth c as M Q h C => ?_)
  · obtain ⟨s0, m', i, rfl, h5, h6, hm, hi, h1, h2, h3, h4⟩ := h; exact ⟨by simp, by simp [Value.category]⟩
  · obtain ⟨s0, m', i, rfl, h5, h6, hm, hi, h1, h2, h3, h4⟩ := h
    refine s_of (fun lv st M0 hs => ?_) (WX3_expect_0 C (t_X3_fail hr) (by decide) (t_X3_go hr) (by decide))
    obtain ⟨rfl, rfl, rfl⟩ := hs
    unfold BX3_expect_0
    simp only [T_X3_fail, T_X3_go, i_const, i_lconst, i_iload, i_aload, i_lload, i_istore, i_astore, i_lstore, i_iinc, i_bin, i_div, i_un, i_i2l, i_l2i, i_lbin, i_lcmp, i_if, i_icmp, i_dup, i_dup_x1, i_dup2, i_pop, i_geti, i_getr, i_getd, i_puti, i_putz, i_putd, i_iald, i_bald, i_aald, i_iast, i_bast, i_alen, i_keep, i_ret, i_retz, i_reta, i_retl, i_retv, i_callv, i_callk, i_calls, i_mm, i_copy, i_under, i_undld, i_ldcs, i_sw, q_swc0, q_swc1, q_lg0, q_lg1, q_lent0, q_lent1, lset, lset2, q_lins0, q_lins1, q_ldel0, q_ldel1, q_ldel20, q_ldel21, q_lkeep0, q_lkeep1, q_memb0, q_memb1, cat2, Nat.reduceBEq, decide_true, decide_false, decide_eq_true_eq, cond_true, cond_false, Bool.and_true, Bool.and_false, Bool.true_and, Bool.false_and, f_iadd, f_isub, f_imul, f_ishl, f_ishr, f_iushr, f_iand, f_ior, f_idiv, f_irem, f_ineg, f_i2b, f_i2s, f_ladd, f_lmul, c_eq, c_ne, c_lt, c_ge, c_gt, c_le, cc_eq, cc_ne, cc_lt, cc_ge, cc_gt, cc_le, rfo, aof, csum, Value.category, List.take, List.drop, List.reverse, List.reverseAux, List.map, List.sum_cons, List.sum_nil, List.cons_append, List.nil_append, Option.toList, List.mem_cons, List.not_mem_nil, List.length_cons, List.length_nil, reduceIte, Nat.reduceEqDiff, Nat.reduceAdd, Nat.reduceLeDiff, Nat.reduceLT, a_day, Nat.zero_ne_one, Nat.one_ne_zero, false_and, and_false, true_and, and_true, or_false, false_or, or_true, true_or, not_true_eq_false, not_false_eq_true, Nat.zero_add, Nat.add_zero, Nat.le_refl, Nat.lt_irrefl, Nat.zero_lt_succ, Nat.zero_le, forall_const, List.cons.injEq, Value.int.injEq, Value.ref.injEq, Value.long.injEq, and_assoc, exists_and_left, exists_eq_left']
    try simp only [forall_eq]
    have t3 : okq g 3 3 := okR hr (by decide) (by decide) rfl
    have t5 : okq g 7 5 := okR hr (by decide) (by decide) rfl
    rw [h6, nI_clamp (by omega)]
    refine ⟨t3, t3, t5, vp_in_nI (n := i) (N := 161) (by omega) (by decide), fun y => ⟨t3.1, t3.2.1, m', h5, i, rfl, hm, hi, h3 y, h4 y⟩, fun y => ⟨t3.1, t3.2.1, m', h5, i, rfl, hm, hi, h1 (Decidable.not_not.mp y), h2 (Decidable.not_not.mp y)⟩⟩
def T_X4_add (g : WG) (as : List Value) (M : MM) (Q : Option Value → MM → Prop) : Prop := ∃ (r sz : Nat) (x : Int32), as = [.ref r, .int x] ∧ isT r ∧ M r 4 = nI sz ∧ sz ≤ 160 ∧ (sz < 160 → Q none (mset (mset M (r + 1) sz x) r 4 (nI (sz + 1)))) ∧ (sz = 160 → Q none M)
set_option maxRecDepth 100000 in
set_option maxHeartbeats 1000000 in
theorem t_X4_add {l : Launch} {g : WG} (hr : Reg g 3 32) : Ct l g yX4_add cX4_add 2 ((Option.none : Option FieldType)) 1 (T_X4_add g) := by
  refine Ct.of (by decide) (fun as M Q h => ?_) (fun p e s m args below meth c as M Q h C => ?_)
  · obtain ⟨r, sz, x, rfl, hT, h4, hsz, h1, h2⟩ := h; exact ⟨by simp, by simp [Value.category]⟩
  · obtain ⟨r, sz, x, rfl, hT, h4, hsz, h1, h2⟩ := h
    refine s_of (fun lv st M0 hs => ?_) (WX4_add_0 C)
    obtain ⟨rfl, rfl, rfl⟩ := hs
    unfold BX4_add_0
    simp only [i_const, i_lconst, i_iload, i_aload, i_lload, i_istore, i_astore, i_lstore, i_iinc, i_bin, i_div, i_un, i_i2l, i_l2i, i_lbin, i_lcmp, i_if, i_icmp, i_dup, i_dup_x1, i_dup2, i_pop, i_geti, i_getr, i_getd, i_puti, i_putz, i_putd, i_iald, i_bald, i_aald, i_iast, i_bast, i_alen, i_keep, i_ret, i_retz, i_reta, i_retl, i_retv, i_callv, i_callk, i_calls, i_mm, i_copy, i_under, i_undld, i_ldcs, i_sw, q_swc0, q_swc1, q_lg0, q_lg1, q_lent0, q_lent1, lset, lset2, q_lins0, q_lins1, q_ldel0, q_ldel1, q_ldel20, q_ldel21, q_lkeep0, q_lkeep1, q_memb0, q_memb1, cat2, Nat.reduceBEq, decide_true, decide_false, decide_eq_true_eq, cond_true, cond_false, Bool.and_true, Bool.and_false, Bool.true_and, Bool.false_and, f_iadd, f_isub, f_imul, f_ishl, f_ishr, f_iushr, f_iand, f_ior, f_idiv, f_irem, f_ineg, f_i2b, f_i2s, f_ladd, f_lmul, c_eq, c_ne, c_lt, c_ge, c_gt, c_le, cc_eq, cc_ne, cc_lt, cc_ge, cc_gt, cc_le, rfo, aof, csum, Value.category, List.take, List.drop, List.reverse, List.reverseAux, List.map, List.sum_cons, List.sum_nil, List.cons_append, List.nil_append, Option.toList, List.mem_cons, List.not_mem_nil, List.length_cons, List.length_nil, reduceIte, Nat.reduceEqDiff, Nat.reduceAdd, Nat.reduceLeDiff, Nat.reduceLT, a_day, Nat.zero_ne_one, Nat.one_ne_zero, false_and, and_false, true_and, and_true, or_false, false_or, or_true, true_or, not_true_eq_false, not_false_eq_true, Nat.zero_add, Nat.add_zero, Nat.le_refl, Nat.lt_irrefl, Nat.zero_lt_succ, Nat.zero_le, forall_const, List.cons.injEq, Value.int.injEq, Value.ref.injEq, Value.long.injEq, and_assoc, exists_and_left, exists_eq_left']
    try simp only [forall_eq]
    obtain ⟨t1, t2, t3, t4, ⟨n1, n2, n3⟩, -⟩ := text_ok hr hT
    have e : mset M0 (r + 1) sz x r 4 = nI sz := by rw [ms_q (by omega)]; exact h4
    rw [h4, nI_clamp (by omega), e, show (160 : Int32) = nI 160 from rfl, nI_leI (a := 160) (by decide) (by omega), nI_1]
    refine ⟨t1, fun y => h2 (by omega), fun y => ⟨t1, t1, t2, by rw [n1]; exact vp_in_nI (by omega) (by decide), t1, t1, h1 (by omega)⟩⟩
theorem c160' : (160 : Int32) = nI 160 := rfl
section ST
variable {M M1 M2 : MM} {r m i sz : Nat} {f : Int32}
theorem RSt.go (hr : isT r) (h : RSt M r m i sz (-1)) (hi : i < m) : RSt (mset M 3 6 (nI (i + 1))) r m (i + 1) sz (-1) ∧ Sm (YP r) M (mset M 3 6 (nI (i + 1))) := by
  have h8 := isT_8 hr
  have hs : Sm (YP r) M (mset M 3 6 (nI (i + 1))) := Sm.rf.set _ (Or.inl ⟨rfl, Or.inl rfl⟩)
  obtain ⟨a, b, c, d, e, k, l, n⟩ := h
  refine ⟨⟨a.keep hr hs, ms_s _ _ _ _, by omega, by rw [ms_j (by decide)]; exact d, by rw [ms_q (by omega)]; exact e, k, fun q => by have := l q; omega, fun q => absurd rfl q⟩, hs⟩
/-- the fault is found here -/
theorem RSt.fail (hr : isT r) (h : RSt M r m i sz (-1)) {F : Nat → Prop} (hF : F i) : FlO F M (mset (mset M 3 7 (M 7 i)) 3 6 (nI m)) r m i (-1) := by
  have h8 := isT_8 hr
  have hs : Sm (YP r) M (mset (mset M 3 7 (M 7 i)) 3 6 (nI m)) := (Sm.rf.set _ (Or.inl ⟨rfl, Or.inr rfl⟩)).set _ (Or.inl ⟨rfl, Or.inl rfl⟩)
  obtain ⟨a, b, c, d, e, k, l, n⟩ := h
  have hp := a.2.2.2.2 i c
  have hne : ¬ M 7 i = -1 := by
    obtain ⟨p, hp, ep⟩ := hp
    rw [ep]; exact fun q => absurd (nI_pos' (n := p) (by omega)) (by rw [q]; decide)
  refine ⟨hs, M 7 i, sz, ⟨a.keep hr hs, ms_s _ _ _ _, Nat.le_refl _, by rw [ms_j (by decide), ms_s], by rw [ms_q (by omega), ms_q (by omega)]; exact e, k, fun q => absurd q hne, fun _ => rfl⟩, hne, fun q => absurd rfl q, fun _ => ⟨i, Nat.le_refl _, c, hF, rfl⟩⟩
/-- already at fault: it stays so -/
theorem RSt.fail2 (hr : isT r) (h : RSt M r m i sz f) (hf : ¬ f = -1) : RSt (mset M 3 6 (nI m)) r m m sz f ∧ Sm (YP r) M (mset M 3 6 (nI m)) := by
  have h8 := isT_8 hr
  have hs : Sm (YP r) M (mset M 3 6 (nI m)) := Sm.rf.set _ (Or.inl ⟨rfl, Or.inl rfl⟩)
  obtain ⟨a, b, c, d, e, k, l, n⟩ := h
  exact ⟨⟨a.keep hr hs, ms_s _ _ _ _, Nat.le_refl _, by rw [ms_j (by decide)]; exact d, by rw [ms_q (by omega)]; exact e, k, fun q => absurd q hf, fun _ => rfl⟩, hs⟩
theorem add_S (r sz : Nat) (x : Int32) (M : MM) : Sm (YP r) M (mset (mset M (r + 1) sz x) r 4 (nI (sz + 1))) := (Sm.rf.set _ (Or.inr (Or.inr rfl))).set _ (Or.inr (Or.inl ⟨rfl, rfl⟩))
theorem RSt.add (hr : isT r) (h : RSt M r m i sz f) (x : Int32) (hsz : sz < 160) (hi : f = -1 → sz + 1 ≤ i) : RSt (mset (mset M (r + 1) sz x) r 4 (nI (sz + 1))) r m i (sz + 1) f := by
  have h8 := isT_8 hr
  obtain ⟨a, b, c, d, e, k, l, n⟩ := h
  refine ⟨a.keep hr (add_S r sz x M), by rw [ms_q (by omega), ms_q (by omega)]; exact b, c, by rw [ms_q (by omega), ms_q (by omega)]; exact d, ms_s _ _ _ _, by omega, hi, n⟩
/-- a step more, at fault -/
theorem FlO.add {F : Nat → Prop} (hr : isT r) (h : FlO F M M1 r m i f) (x : Int32) : ∀ sz1, M1 r 4 = nI sz1 → sz1 < 160 → FlO F M (mset (mset M1 (r + 1) sz1 x) r 4 (nI (sz1 + 1))) r m i f := by
  intro sz1 e h160
  obtain ⟨hs, f', sz', hR, h1, h2, h3⟩ := h
  have : sz' = sz1 := (nI_eq (by have := hR.2.2.2.2.2.1; omega) (by omega)).mp (hR.2.2.2.2.1.symm.trans e)
  subst this
  exact ⟨hs.tr (add_S r sz' x M1), f', sz' + 1, hR.add hr x h160 (fun q => absurd q h1), h1, h2, h3⟩
/-- behind a fault: what comes next leaves it -/
theorem FlO.next {F : Nat → Prop} {f1 : Int32} {sz1 sz2 : Nat} (h : FlO F M M1 r m i f) (hR1 : RSt M1 r m m sz1 f1) (hs : Sm (YP r) M1 M2) (hR2 : RSt M2 r m m sz2 f1) : FlO F M M2 r m i f := by
  obtain ⟨hs1, f', sz', hR, h1, h2, h3⟩ := h
  have : f' = f1 := hR.2.2.2.1.symm.trans hR1.2.2.2.1
  subst this
  exact ⟨hs1.tr hs, f', sz2, hR2, h1, h2, h3⟩
theorem FlO.mono {F F' : Nat → Prop} (h : FlO F M M1 r m i f) (hF : ∀ k, i ≤ k → F k → F' k) : FlO F' M M1 r m i f := by
  obtain ⟨hs1, f', sz', hR, h1, h2, h3⟩ := h
  exact ⟨hs1, f', sz', hR, h1, h2, fun q => by obtain ⟨k, a, b, c, d⟩ := h3 q; exact ⟨k, a, b, hF k a c, d⟩⟩
theorem FlO.call {F F' : Nat → Prop} {f1 : Int32} {sz1 : Nat} (h : FlO F M M1 r m i f) (hR1 : RSt M1 r m m sz1 f1) (h2 : FlO F' M1 M2 r m m f1) (hf1 : ¬ f1 = -1) : FlO F M M2 r m i f := by
  obtain ⟨hs2, f2, sz2, hR2, g1, g2, g3⟩ := h2
  have := g2 hf1
  subst this
  exact h.next hR1 hs2 hR2
theorem FlO.st {F : Nat → Prop} (h : FlO F M M1 r m i f) : ∃ f1 sz1, RSt M1 r m m sz1 f1 ∧ ¬ f1 = -1 := by
  obtain ⟨hs1, f', sz', hR, h1, h2, h3⟩ := h
  exact ⟨f', sz', hR, h1⟩
end ST
theorem dls_app : ∀ (a b : List Int32) (n : Nat), dls (a ++ b) n = (dls a n).bind (fun m => dls b m)
  | [], b, n => rfl
  | x :: a, b, n => by
    simp only [List.cons_append, dls]
    cases dst x n with
    | none => rfl
    | some m => exact dls_app a b m
theorem wfc_1 {x : Int32} (h : isN x 10015) (hd : ∀ n, dst (tr x) n = some (n + 1)) : wfc 1 [x] := by
  refine ⟨fun n => ?_, fun y hy => by rw [List.mem_singleton.mp hy]; exact h⟩
  simp only [List.map_cons, List.map_nil, dls, hd]
theorem wfc_u {x : Int32} {c : List Int32} (h : wfc 1 c) (hx : isN x 10015) (hd : ∀ n, dst (tr x) (n + 1) = some (n + 1)) : wfc 1 (c ++ [x]) := by
  refine ⟨fun n => ?_, fun y hy => ?_⟩
  · rw [List.map_append, dls_app, h.1 n]
    simp only [Option.bind_some, List.map_cons, List.map_nil, dls, hd]
  · rcases List.mem_append.mp hy with q | q
    · exact h.2 y q
    · rw [List.mem_singleton.mp q]; exact hx
theorem wfc_b {x : Int32} {c c2 : List Int32} (h : wfc 1 c) (h2 : wfc 1 c2) (hx : isN x 10015) (hd : ∀ n, dst (tr x) (n + 2) = some (n + 1)) : wfc 1 (c ++ c2 ++ [x]) := by
  refine ⟨fun n => ?_, fun y hy => ?_⟩
  · rw [List.map_append, List.map_append, dls_app, dls_app, h.1 n]
    simp only [Option.bind_some, h2.1 (n + 1), List.map_cons, List.map_nil, dls, hd]
  · rcases List.mem_append.mp hy with q | q
    · rcases List.mem_append.mp q with q | q
      · exact h.2 y q
      · exact h2.2 y q
    · rw [List.mem_singleton.mp q]; exact hx
theorem wfc_sg {x : Int32} (hx : x = 6 ∨ x = 7 ∨ x = 8 ∨ x = 9 ∨ x = 10 ∨ x = 11 ∨ x = 12) : isN x 10015 ∧ ∀ n, dst (tr x) (n + 2) = some (n + 1) := by
  have hd : ∀ y : Int32, ¬ 0 ≤ y → ¬ -6 ≤ y → ¬ (y = -11 ∨ y = -12) → (-19 ≤ y ∧ y ≤ -13) → ∀ n, dst y (n + 2) = some (n + 1) := fun y h1 h2 h3 h4 n => by
    unfold dst
    rw [if_neg h1, if_neg h2, if_neg h3, if_pos h4, if_pos (by omega)]; rfl
  rcases hx with rfl | rfl | rfl | rfl | rfl | rfl | rfl
  · exact ⟨⟨6, by decide, rfl⟩, hd _ (by decide) (by decide) (by decide) (by decide)⟩
  · exact ⟨⟨7, by decide, rfl⟩, hd _ (by decide) (by decide) (by decide) (by decide)⟩
  · exact ⟨⟨8, by decide, rfl⟩, hd _ (by decide) (by decide) (by decide) (by decide)⟩
  · exact ⟨⟨9, by decide, rfl⟩, hd _ (by decide) (by decide) (by decide) (by decide)⟩
  · exact ⟨⟨10, by decide, rfl⟩, hd _ (by decide) (by decide) (by decide) (by decide)⟩
  · exact ⟨⟨11, by decide, rfl⟩, hd _ (by decide) (by decide) (by decide) (by decide)⟩
  · exact ⟨⟨12, by decide, rfl⟩, hd _ (by decide) (by decide) (by decide) (by decide)⟩
theorem wfc_un {x : Int32} (hx : x = 13 ∨ x = 14) : isN x 10015 ∧ ∀ n, dst (tr x) (n + 1) = some (n + 1) := by
  rcases hx with rfl | rfl
  · refine ⟨⟨13, by decide, rfl⟩, fun n => ?_⟩
    show dst (-12) (n + 1) = _
    unfold dst
    rw [if_neg (by decide), if_neg (by decide), if_pos (by decide), if_pos (by omega)]
  · refine ⟨⟨14, by decide, rfl⟩, fun n => ?_⟩
    show dst (-11) (n + 1) = _
    unfold dst
    rw [if_neg (by decide), if_neg (by decide), if_pos (by decide), if_pos (by omega)]
section CAT
variable {M M1 M2 M3 : MM} {r m i sz j j2 : Nat} {c c2 : List Int32}
/-- codes, then codes, then one for both -/
theorem GdO.cat {G G' : Nat → List Int32 → Prop} (hr : isT r) {x : Int32} (hx : x = 6 ∨ x = 7 ∨ x = 8 ∨ x = 9 ∨ x = 10 ∨ x = 11 ∨ x = 12) (hs1 : Sm (YP r) M M1) (hj : i + 1 ≤ j) (hR : RSt M1 r m j (sz + c.length) (-1)) (hcl : c.length ≤ j - i)
    (hq : ∀ q, q < sz → M1 (r + 1) q = M (r + 1) q) (hq2 : ∀ q x, c[q]? = some x → M1 (r + 1) (sz + q) = tr x) (hw : wfc 1 c)
    (hs2 : Sm (YP r) M1 M2) (hrow : ∀ q, M2 (r + 1) q = M1 (r + 1) q)
    (hs3 : Sm (YP r) M2 M3) (hj2 : j + 1 + 1 ≤ j2) (hR3 : RSt M3 r m j2 (sz + c.length + c2.length) (-1)) (hcl2 : c2.length ≤ j2 - (j + 1))
    (gq : ∀ q, q < sz + c.length → M3 (r + 1) q = M2 (r + 1) q) (gq2 : ∀ q x, c2[q]? = some x → M3 (r + 1) (sz + c.length + q) = tr x) (hw2 : wfc 1 c2) (hG : G' j2 (c ++ c2 ++ [x])) (hsz : sz ≤ i) :
    sz + c.length + c2.length < 160 ∧ GdO G' M (mset (mset M3 (r + 1) (sz + c.length + c2.length) (tr x)) r 4 (nI (sz + c.length + c2.length + 1))) r m i sz := by
  have hjm := hR3.2.2.1
  have hm := hR3.1.2.1
  have h160 : sz + c.length + c2.length < 160 := by omega
  obtain ⟨w1, w2⟩ := wfc_sg hx
  refine ⟨h160, ((hs1.tr hs2).tr hs3).tr (add_S _ _ _ _), j2, c ++ c2 ++ [x], by omega, ?_, by simp; omega, fun q hq' => ?_, fun q y hy => ?_, wfc_b hw hw2 w1 w2, hG⟩
  · have := hR3.add hr (tr x) h160 (fun _ => by omega)
    rw [show sz + (c ++ c2 ++ [x]).length = sz + c.length + c2.length + 1 by simp; omega]
    exact this
  · rw [ms_q (by omega), ms_j (by omega), gq q (by omega), hrow, hq q hq']
  · rw [ms_q (by omega)]
    by_cases a : q < c.length
    · rw [List.append_assoc, List.getElem?_append_left a] at hy
      rw [ms_j (by omega), gq _ (by omega), hrow]
      exact hq2 q y hy
    · rw [List.append_assoc, List.getElem?_append_right (by omega)] at hy
      by_cases b : q - c.length < c2.length
      · rw [List.getElem?_append_left b] at hy
        rw [ms_j (by omega)]
        have := gq2 _ y hy
        rwa [show sz + c.length + (q - c.length) = sz + q by omega] at this
      · rw [List.getElem?_append_right (by omega)] at hy
        have e : q - c.length - c2.length = 0 := by
          rcases Nat.eq_zero_or_pos (q - c.length - c2.length) with z | z
          · exact z
          · rw [List.getElem?_eq_none (by simp; omega)] at hy; cases hy
        rw [e] at hy
        simp at hy
        subst hy
        rw [show sz + q = sz + c.length + c2.length by omega, ms_s]
/-- codes, then one for them -/
theorem GdO.un {G : Nat → List Int32 → Prop} (hr : isT r) {x : Int32} (hx : x = 13 ∨ x = 14) (hs1 : Sm (YP r) M M1) (hrow : ∀ q, M1 (r + 1) q = M (r + 1) q) (hs3 : Sm (YP r) M1 M3) (hj2 : i + 1 + 1 ≤ j2) (hR3 : RSt M3 r m j2 (sz + c2.length) (-1)) (hcl2 : c2.length ≤ j2 - (i + 1))
    (gq : ∀ q, q < sz → M3 (r + 1) q = M1 (r + 1) q) (gq2 : ∀ q x, c2[q]? = some x → M3 (r + 1) (sz + q) = tr x) (hw2 : wfc 1 c2) (hG : G j2 (c2 ++ [x])) (hsz : sz ≤ i) :
    sz + c2.length < 160 ∧ GdO G M (mset (mset M3 (r + 1) (sz + c2.length) (tr x)) r 4 (nI (sz + c2.length + 1))) r m i sz := by
  have hjm := hR3.2.2.1
  have hm := hR3.1.2.1
  have h160 : sz + c2.length < 160 := by omega
  obtain ⟨w1, w2⟩ := wfc_un hx
  refine ⟨h160, (hs1.tr hs3).tr (add_S _ _ _ _), j2, c2 ++ [x], by omega, ?_, by simp; omega, fun q hq' => ?_, fun q y hy => ?_, wfc_u hw2 w1 w2, hG⟩
  · have := hR3.add hr (tr x) h160 (fun _ => by omega)
    rw [show sz + (c2 ++ [x]).length = sz + c2.length + 1 by simp; omega]
    exact this
  · rw [ms_q (by omega), ms_j (by omega), gq q (by omega), hrow]
  · rw [ms_q (by omega)]
    by_cases b : q < c2.length
    · rw [List.getElem?_append_left b] at hy
      rw [ms_j (by omega)]
      exact gq2 _ y hy
    · rw [List.getElem?_append_right (by omega)] at hy
      have e : q - c2.length = 0 := by
        rcases Nat.eq_zero_or_pos (q - c2.length) with z | z
        · exact z
        · rw [List.getElem?_eq_none (by simp; omega)] at hy; cases hy
      rw [e] at hy
      simp at hy
      subst hy
      rw [show sz + q = sz + c2.length by omega, ms_s]
end CAT

