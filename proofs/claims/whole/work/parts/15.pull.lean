/-! ===== how a seam pulls, wears, stands ===== -/
def eorI (x hh : Int32) : Int32 := if 0 ≤ hh then x ||| (1 <<< (hh &&& 31)) else x
def eorN (m : Nat) (hh : Int32) : Nat := if 0 ≤ hh then m ||| 2 ^ hh.toNatClampNeg else m
theorem one_shl : ∀ h, h < 16 → ((1 : Int32) <<< (nI h &&& 31)) = nI (2 ^ h) := by
  have key : ∀ h : Fin 16, ((1 : Int32) <<< (nI h.val &&& 31)) = nI (2 ^ h.val) := by decide +kernel
  exact fun h hh => key ⟨h, hh⟩
def hok (hh : Int32) : Prop := hh = -1 ∨ ∃ h, h < 16 ∧ hh = nI h
theorem eor_nI {m : Nat} {hh : Int32} (h : hok hh) : eorI (nI m) hh = nI (eorN m hh) := by
  rcases h with rfl | ⟨h, h1, rfl⟩
  · rfl
  · have h0 : (0 : Int32) ≤ nI h := nI_pos' (by omega)
    simp only [eorI, eorN, if_pos h0]
    rw [one_shl h h1, or_nI, nI_clamp (by omega)]
theorem ask_fct {M M1 : MM} {q s : Nat} {j : Int32} (hs : s < dn (dv M q)) (e0 : M1 (q + 4) 0 = M (q + 5 + s) 3 - M (q + 5 + s) 2 + 1) (e1 : M1 (q + 4) 1 = M (q + 5 + s) 4) (e2 : M1 (q + 4) 2 = M (q + 5 + s) 1) (e3 : M1 (q + 4) 3 = j) (e4 : M1 (q + 4) 4 = M q 5) (e5 : M1 (q + 4) 5 = whl (dv M q) (dn (dv M q))) :
    ∀ i, i < 6 → M1 (q + 4) i = fct (dv M q) s j i := by
  intro i hi
  have : i = 0 ∨ i = 1 ∨ i = 2 ∨ i = 3 ∨ i = 4 ∨ i = 5 := by omega
  rcases this with rfl | rfl | rfl | rfl | rfl | rfl
  · rw [e0]; simp only [fct, lenS']; rw [dv_s 3 (by omega) hs, dv_s 2 (by omega) hs]
  · rw [e1]; simp only [fct]; rw [dv_s 4 (by omega) hs]
  · rw [e2]; simp only [fct]; rw [dv_s 1 (by omega) hs]
  · rw [e3]; rfl
  · rw [e4]; rfl
  · rw [e5]; rfl
def T_X0_ask (g : WG) (as : List Value) (M : MM) (Q : Option Value → MM → Prop) : Prop := ∃ (q r : Nat) (j w : Int32), as = [.ref q, .ref r, .int j, .int w] ∧ isD q ∧ okq g 1 r ∧ ¬ r = q + 4 ∧ ∀ M', Sm (fun a _ => a = q + 4) M M' → M' (q + 4) 0 = M r 3 - M r 2 + 1 → M' (q + 4) 1 = M r 4 → M' (q + 4) 2 = M r 1 → M' (q + 4) 3 = j → M' (q + 4) 4 = M q 5 → M' (q + 4) 5 = w → Q none M'
set_option maxRecDepth 100000 in
set_option maxHeartbeats 1000000 in
theorem t_X0_ask {l : Launch} {g : WG} (hg : Full g) : Ct l g yX0_ask cX0_ask 4 ((Option.none : Option FieldType)) 2 (T_X0_ask g) := by
  refine Ct.of (by decide) (fun as M Q h => ?_) (fun p e s m args below meth c as M Q h C => ?_)
  · obtain ⟨q, r, j, w, rfl, hq, hr, hne, h⟩ := h; exact ⟨by simp, by simp [Value.category]⟩
  · obtain ⟨q, r, j, w, rfl, hq, hr, hne, h⟩ := h
    obtain ⟨o1, o2, o3, o4, o5, ⟨l1, l2, l3, l4⟩, -⟩ := day_ok hg hq
    refine s_of (fun lv st M0 hs => ?_) (WX0_ask_0 C (t_X1_span hg) (by decide))
    obtain ⟨rfl, rfl, rfl⟩ := hs
    unfold BX0_ask_0
    generalize hB9 : BX0_ask_9 g Q (T_X1_span g) = B9
    simp only [T_X1_span, i_const, i_lconst, i_iload, i_aload, i_lload, i_istore, i_astore, i_lstore, i_iinc, i_bin, i_div, i_un, i_i2l, i_l2i, i_lbin, i_lcmp, i_if, i_icmp, i_dup, i_dup_x1, i_dup2, i_pop, i_geti, i_getr, i_getd, i_puti, i_putz, i_putd, i_iald, i_bald, i_aald, i_iast, i_bast, i_alen, i_keep, i_ret, i_retz, i_reta, i_retl, i_retv, i_callv, i_callk, i_calls, i_mm, i_copy, i_under, i_undld, i_ldcs, i_sw, q_swc0, q_swc1, q_lg0, q_lg1, q_lent0, q_lent1, lset, lset2, q_lins0, q_lins1, q_ldel0, q_ldel1, q_ldel20, q_ldel21, q_lkeep0, q_lkeep1, q_memb0, q_memb1, cat2, Nat.reduceBEq, decide_true, decide_false, decide_eq_true_eq, cond_true, cond_false, Bool.and_true, Bool.and_false, Bool.true_and, Bool.false_and, f_iadd, f_isub, f_imul, f_ishl, f_ishr, f_iushr, f_iand, f_ior, f_idiv, f_irem, f_ineg, f_i2b, f_i2s, f_ladd, f_lmul, c_eq, c_ne, c_lt, c_ge, c_gt, c_le, cc_eq, cc_ne, cc_lt, cc_ge, cc_gt, cc_le, rfo, aof, csum, Value.category, List.take, List.drop, List.reverse, List.reverseAux, List.map, List.sum_cons, List.sum_nil, List.cons_append, List.nil_append, Option.toList, List.mem_cons, List.not_mem_nil, List.length_cons, List.length_nil, reduceIte, Nat.reduceEqDiff, Nat.reduceAdd, Nat.reduceLeDiff, Nat.reduceLT, a_day, Nat.zero_ne_one, Nat.one_ne_zero, false_and, and_false, true_and, and_true, or_false, false_or, or_true, true_or, not_true_eq_false, not_false_eq_true, Nat.zero_add, Nat.add_zero, Nat.le_refl, Nat.lt_irrefl, Nat.zero_lt_succ, Nat.zero_le, forall_const, List.cons.injEq, Value.int.injEq, Value.ref.injEq, Value.long.injEq, and_assoc, exists_and_left, exists_eq_left']
    try simp only [forall_eq]
    refine ⟨o1, hr.1, hr.2.1, hr, ?_⟩
    subst hB9
    unfold BX0_ask_9
    simp only [T_X1_span, i_const, i_lconst, i_iload, i_aload, i_lload, i_istore, i_astore, i_lstore, i_iinc, i_bin, i_div, i_un, i_i2l, i_l2i, i_lbin, i_lcmp, i_if, i_icmp, i_dup, i_dup_x1, i_dup2, i_pop, i_geti, i_getr, i_getd, i_puti, i_putz, i_putd, i_iald, i_bald, i_aald, i_iast, i_bast, i_alen, i_keep, i_ret, i_retz, i_reta, i_retl, i_retv, i_callv, i_callk, i_calls, i_mm, i_copy, i_under, i_undld, i_ldcs, i_sw, q_swc0, q_swc1, q_lg0, q_lg1, q_lent0, q_lent1, lset, lset2, q_lins0, q_lins1, q_ldel0, q_ldel1, q_ldel20, q_ldel21, q_lkeep0, q_lkeep1, q_memb0, q_memb1, cat2, Nat.reduceBEq, decide_true, decide_false, decide_eq_true_eq, cond_true, cond_false, Bool.and_true, Bool.and_false, Bool.true_and, Bool.false_and, f_iadd, f_isub, f_imul, f_ishl, f_ishr, f_iushr, f_iand, f_ior, f_idiv, f_irem, f_ineg, f_i2b, f_i2s, f_ladd, f_lmul, c_eq, c_ne, c_lt, c_ge, c_gt, c_le, cc_eq, cc_ne, cc_lt, cc_ge, cc_gt, cc_le, rfo, aof, csum, Value.category, List.take, List.drop, List.reverse, List.reverseAux, List.map, List.sum_cons, List.sum_nil, List.cons_append, List.nil_append, Option.toList, List.mem_cons, List.not_mem_nil, List.length_cons, List.length_nil, reduceIte, Nat.reduceEqDiff, Nat.reduceAdd, Nat.reduceLeDiff, Nat.reduceLT, a_day, Nat.zero_ne_one, Nat.one_ne_zero, false_and, and_false, true_and, and_true, or_false, false_or, or_true, true_or, not_true_eq_false, not_false_eq_true, Nat.zero_add, Nat.add_zero, Nat.le_refl, Nat.lt_irrefl, Nat.zero_lt_succ, Nat.zero_le, forall_const, List.cons.injEq, Value.int.injEq, Value.ref.injEq, Value.long.injEq, and_assoc, exists_and_left, exists_eq_left']
    try simp only [forall_eq]
    have hqq : ¬ q = q + 4 := by omega
    have v : ∀ n, n < 6 → vp_in (nI n) (ln (q + 4)) := fun n hn => vp_in_nI (by omega) (by omega)
    refine ⟨o5, v 0 (by decide), o1, hr, o5, v 1 (by decide), o1, hr, o5, v 2 (by decide), o1, o5, v 3 (by decide), o1, o1, o5, v 4 (by decide), o1, o5, v 5 (by decide), ?_⟩
    have k0 : (0 : Int32).toNatClampNeg = 0 := rfl
    have k1 : (1 : Int32).toNatClampNeg = 1 := rfl
    have k2 : (2 : Int32).toNatClampNeg = 2 := rfl
    have k3 : (3 : Int32).toNatClampNeg = 3 := rfl
    have k4 : (4 : Int32).toNatClampNeg = 4 := rfl
    have k5 : (5 : Int32).toNatClampNeg = 5 := rfl
    simp only [k0, k1, k2, k3, k4, k5]
    refine h _ ?_ ?_ ?_ ?_ ?_ ?_ ?_
    · intro a b hx; simp only [mset_app, if_neg hx]
    all_goals simp [mset_app, hne, hqq]
def T_X0_wears (g : WG) (as : List Value) (M : MM) (Q : Option Value → MM → Prop) : Prop := ∃ (q s : Nat), as = [.ref q, .ref (q + 5 + s), .int (whl (dv M q) (dn (dv M q)))] ∧ okD M q ∧ s < dn (dv M q) ∧ ∀ M', Sm (XF q) M M' → Q (some (.int (wea (xc M) (dv M q) s))) M'
set_option maxRecDepth 100000 in
set_option maxHeartbeats 1000000 in
theorem t_X0_wears {l : Launch} {g : WG} (hg : Full g) : Ct l g yX0_wears cX0_wears 3 ((Option.some FieldType.int)) 4 (T_X0_wears g) := by
  refine Ct.of (by decide) (fun as M Q h => ?_) (fun p e s m args below meth c as M Q h C => ?_)
  · obtain ⟨q, s0, rfl, hq, hs0, h⟩ := h; exact ⟨by simp, by simp [Value.category]⟩
  · obtain ⟨q, s0, rfl, hq, hs0, h⟩ := h
    obtain ⟨o1, o2, o3, o4, o5, ⟨l1, l2, l3, l4⟩, og, ok⟩ := day_ok hg hq.1
    have hqd := hq.1
    have so := seam_ok (s := s0) hg hqd (by have := hq.n; omega)
    obtain ⟨t, ht, hr4, htx, hrix⟩ := hq.rule
    refine s_of (fun lv st M0 hs => ?_) (WX0_wears_0 C (t_X0_ask hg) (by decide) (t_X4_value (tape_r hg)) (by decide) (t_X5_bounded hg) (by decide) (t_X1_wearsBy hg) (by decide))
    obtain ⟨rfl, rfl, rfl⟩ := hs
    unfold BX0_wears_0
    generalize hB7 : BX0_wears_7 g Q (T_X0_ask g) (T_X4_value g) (T_X5_bounded g) (T_X1_wearsBy g) = B7
    simp only [T_X0_ask, T_X4_value, T_X5_bounded, T_X1_wearsBy, i_const, i_lconst, i_iload, i_aload, i_lload, i_istore, i_astore, i_lstore, i_iinc, i_bin, i_div, i_un, i_i2l, i_l2i, i_lbin, i_lcmp, i_if, i_icmp, i_dup, i_dup_x1, i_dup2, i_pop, i_geti, i_getr, i_getd, i_puti, i_putz, i_putd, i_iald, i_bald, i_aald, i_iast, i_bast, i_alen, i_keep, i_ret, i_retz, i_reta, i_retl, i_retv, i_callv, i_callk, i_calls, i_mm, i_copy, i_under, i_undld, i_ldcs, i_sw, q_swc0, q_swc1, q_lg0, q_lg1, q_lent0, q_lent1, lset, lset2, q_lins0, q_lins1, q_ldel0, q_ldel1, q_ldel20, q_ldel21, q_lkeep0, q_lkeep1, q_memb0, q_memb1, cat2, Nat.reduceBEq, decide_true, decide_false, decide_eq_true_eq, cond_true, cond_false, Bool.and_true, Bool.and_false, Bool.true_and, Bool.false_and, f_iadd, f_isub, f_imul, f_ishl, f_ishr, f_iushr, f_iand, f_ior, f_idiv, f_irem, f_ineg, f_i2b, f_i2s, f_ladd, f_lmul, c_eq, c_ne, c_lt, c_ge, c_gt, c_le, cc_eq, cc_ne, cc_lt, cc_ge, cc_gt, cc_le, rfo, aof, csum, Value.category, List.take, List.drop, List.reverse, List.reverseAux, List.map, List.sum_cons, List.sum_nil, List.cons_append, List.nil_append, Option.toList, List.mem_cons, List.not_mem_nil, List.length_cons, List.length_nil, reduceIte, Nat.reduceEqDiff, Nat.reduceAdd, Nat.reduceLeDiff, Nat.reduceLT, a_day, Nat.zero_ne_one, Nat.one_ne_zero, false_and, and_false, true_and, and_true, or_false, false_or, or_true, true_or, not_true_eq_false, not_false_eq_true, Nat.zero_add, Nat.add_zero, Nat.le_refl, Nat.lt_irrefl, Nat.zero_lt_succ, Nat.zero_le, forall_const, List.cons.injEq, Value.int.injEq, Value.ref.injEq, Value.long.injEq, and_assoc, exists_and_left, exists_eq_left']
    try simp only [forall_eq]
    refine ⟨og, ok, hqd, so, by omega, fun M1 hs1 e0 e1 e2 e3 e4 e5 => ?_⟩
    have hf := ask_fct (s := s0) hs0 e0 e1 e2 e3 e4 e5
    have hrd : rdv (M1 q 4) = .ref (8 + 4 * t) := by rw [hs1 q 4 (by show ¬ q = q + 4; omega), hr4]; exact rdv_n (by omega)
    subst hB7
    unfold BX0_wears_7
    generalize hB20 : BX0_wears_20 g Q (T_X0_ask g) (T_X4_value g) (T_X5_bounded g) (T_X1_wearsBy g) = B20
    simp only [T_X0_ask, T_X4_value, T_X5_bounded, T_X1_wearsBy, hrd, i_const, i_lconst, i_iload, i_aload, i_lload, i_istore, i_astore, i_lstore, i_iinc, i_bin, i_div, i_un, i_i2l, i_l2i, i_lbin, i_lcmp, i_if, i_icmp, i_dup, i_dup_x1, i_dup2, i_pop, i_geti, i_getr, i_getd, i_puti, i_putz, i_putd, i_iald, i_bald, i_aald, i_iast, i_bast, i_alen, i_keep, i_ret, i_retz, i_reta, i_retl, i_retv, i_callv, i_callk, i_calls, i_mm, i_copy, i_under, i_undld, i_ldcs, i_sw, q_swc0, q_swc1, q_lg0, q_lg1, q_lent0, q_lent1, lset, lset2, q_lins0, q_lins1, q_ldel0, q_ldel1, q_ldel20, q_ldel21, q_lkeep0, q_lkeep1, q_memb0, q_memb1, cat2, Nat.reduceBEq, decide_true, decide_false, decide_eq_true_eq, cond_true, cond_false, Bool.and_true, Bool.and_false, Bool.true_and, Bool.false_and, f_iadd, f_isub, f_imul, f_ishl, f_ishr, f_iushr, f_iand, f_ior, f_idiv, f_irem, f_ineg, f_i2b, f_i2s, f_ladd, f_lmul, c_eq, c_ne, c_lt, c_ge, c_gt, c_le, cc_eq, cc_ne, cc_lt, cc_ge, cc_gt, cc_le, rfo, aof, csum, Value.category, List.take, List.drop, List.reverse, List.reverseAux, List.map, List.sum_cons, List.sum_nil, List.cons_append, List.nil_append, Option.toList, List.mem_cons, List.not_mem_nil, List.length_cons, List.length_nil, reduceIte, Nat.reduceEqDiff, Nat.reduceAdd, Nat.reduceLeDiff, Nat.reduceLT, a_day, Nat.zero_ne_one, Nat.one_ne_zero, false_and, and_false, true_and, and_true, or_false, false_or, or_true, true_or, not_true_eq_false, not_false_eq_true, Nat.zero_add, Nat.add_zero, Nat.le_refl, Nat.lt_irrefl, Nat.zero_lt_succ, Nat.zero_le, forall_const, List.cons.injEq, Value.int.injEq, Value.ref.injEq, Value.long.injEq, and_assoc, exists_and_left, exists_eq_left']
    try simp only [forall_eq]
    have hx1 := xc_sm (r := 8 + 4 * t) hs1 (fun j => by unfold isD at hqd; show ¬ 8 + 4 * t + 1 = q + 4; omega) (fun j => by unfold isD at hqd; show ¬ 8 + 4 * t + 2 = q + 4; omega)
    have tk := text_ok (r := 8 + 4 * t) (tape_r hg) ⟨t, ht, rfl⟩
    refine ⟨o1, o1, tk.2.2.2.2.2.1, tk.2.2.2.2.2.2, 1, rfl, ⟨t, ht, rfl⟩, by omega, o5, l4, by unfold isD at hqd; omega, hx1.2 htx, fun M2 hs2 => ?_⟩
    subst hB20
    unfold BX0_wears_20
    generalize hB25 : BX0_wears_25 g Q (T_X0_ask g) (T_X4_value g) (T_X5_bounded g) (T_X1_wearsBy g) = B25
    simp only [T_X0_ask, T_X4_value, T_X5_bounded, T_X1_wearsBy, i_const, i_lconst, i_iload, i_aload, i_lload, i_istore, i_astore, i_lstore, i_iinc, i_bin, i_div, i_un, i_i2l, i_l2i, i_lbin, i_lcmp, i_if, i_icmp, i_dup, i_dup_x1, i_dup2, i_pop, i_geti, i_getr, i_getd, i_puti, i_putz, i_putd, i_iald, i_bald, i_aald, i_iast, i_bast, i_alen, i_keep, i_ret, i_retz, i_reta, i_retl, i_retv, i_callv, i_callk, i_calls, i_mm, i_copy, i_under, i_undld, i_ldcs, i_sw, q_swc0, q_swc1, q_lg0, q_lg1, q_lent0, q_lent1, lset, lset2, q_lins0, q_lins1, q_ldel0, q_ldel1, q_ldel20, q_ldel21, q_lkeep0, q_lkeep1, q_memb0, q_memb1, cat2, Nat.reduceBEq, decide_true, decide_false, decide_eq_true_eq, cond_true, cond_false, Bool.and_true, Bool.and_false, Bool.true_and, Bool.false_and, f_iadd, f_isub, f_imul, f_ishl, f_ishr, f_iushr, f_iand, f_ior, f_idiv, f_irem, f_ineg, f_i2b, f_i2s, f_ladd, f_lmul, c_eq, c_ne, c_lt, c_ge, c_gt, c_le, cc_eq, cc_ne, cc_lt, cc_ge, cc_gt, cc_le, rfo, aof, csum, Value.category, List.take, List.drop, List.reverse, List.reverseAux, List.map, List.sum_cons, List.sum_nil, List.cons_append, List.nil_append, Option.toList, List.mem_cons, List.not_mem_nil, List.length_cons, List.length_nil, reduceIte, Nat.reduceEqDiff, Nat.reduceAdd, Nat.reduceLeDiff, Nat.reduceLT, a_day, Nat.zero_ne_one, Nat.one_ne_zero, false_and, and_false, true_and, and_true, or_false, false_or, or_true, true_or, not_true_eq_false, not_false_eq_true, Nat.zero_add, Nat.add_zero, Nat.le_refl, Nat.lt_irrefl, Nat.zero_lt_succ, Nat.zero_le, forall_const, List.cons.injEq, Value.int.injEq, Value.ref.injEq, Value.long.injEq, and_assoc, exists_and_left, exists_eq_left']
    try simp only [forall_eq]
    refine ⟨by decide, ?_⟩
    have hsF : Sm (XF q) M0 M2 := (hs1.mono fun a _ e => Or.inl e).tr (hs2.mono fun a _ e => Or.inr (by unfold isPile; omega))
    have k0 : M2 (q + 5 + s0) 0 = dv M0 q 1 s0 := by rw [hsF _ _ (by unfold isD at hqd; unfold XF isPile; omega)]; exact (dv_s 0 (by omega) hs0).symm
    have k1 : M2 (q + 5 + s0) 1 = dv M0 q 2 s0 := by rw [hsF _ _ (by unfold isD at hqd; unfold XF isPile; omega)]; exact (dv_s 1 (by omega) hs0).symm
    have k5 : M2 q 5 = dv M0 q 7 1 := by rw [hsF _ _ (by unfold isD at hqd; unfold XF isPile; omega)]; rfl
    subst hB25
    unfold BX0_wears_25
    simp only [T_X0_ask, T_X4_value, T_X5_bounded, T_X1_wearsBy, i_const, i_lconst, i_iload, i_aload, i_lload, i_istore, i_astore, i_lstore, i_iinc, i_bin, i_div, i_un, i_i2l, i_l2i, i_lbin, i_lcmp, i_if, i_icmp, i_dup, i_dup_x1, i_dup2, i_pop, i_geti, i_getr, i_getd, i_puti, i_putz, i_putd, i_iald, i_bald, i_aald, i_iast, i_bast, i_alen, i_keep, i_ret, i_retz, i_reta, i_retl, i_retv, i_callv, i_callk, i_calls, i_mm, i_copy, i_under, i_undld, i_ldcs, i_sw, q_swc0, q_swc1, q_lg0, q_lg1, q_lent0, q_lent1, lset, lset2, q_lins0, q_lins1, q_ldel0, q_ldel1, q_ldel20, q_ldel21, q_lkeep0, q_lkeep1, q_memb0, q_memb1, cat2, Nat.reduceBEq, decide_true, decide_false, decide_eq_true_eq, cond_true, cond_false, Bool.and_true, Bool.and_false, Bool.true_and, Bool.false_and, f_iadd, f_isub, f_imul, f_ishl, f_ishr, f_iushr, f_iand, f_ior, f_idiv, f_irem, f_ineg, f_i2b, f_i2s, f_ladd, f_lmul, c_eq, c_ne, c_lt, c_ge, c_gt, c_le, cc_eq, cc_ne, cc_lt, cc_ge, cc_gt, cc_le, rfo, aof, csum, Value.category, List.take, List.drop, List.reverse, List.reverseAux, List.map, List.sum_cons, List.sum_nil, List.cons_append, List.nil_append, Option.toList, List.mem_cons, List.not_mem_nil, List.length_cons, List.length_nil, reduceIte, Nat.reduceEqDiff, Nat.reduceAdd, Nat.reduceLeDiff, Nat.reduceLT, a_day, Nat.zero_ne_one, Nat.one_ne_zero, false_and, and_false, true_and, and_true, or_false, false_or, or_true, true_or, not_true_eq_false, not_false_eq_true, Nat.zero_add, Nat.add_zero, Nat.le_refl, Nat.lt_irrefl, Nat.zero_lt_succ, Nat.zero_le, forall_const, List.cons.injEq, Value.int.injEq, Value.ref.injEq, Value.long.injEq, and_assoc, exists_and_left, exists_eq_left']
    try simp only [forall_eq]
    refine ⟨o1, so.1, so.2.1, so, ?_⟩
    have := h M2 hsF
    rw [k0, k1, k5, hx1.1, val_congr hf]
    unfold wea rul at this
    rw [hrix] at this
    exact this
def T_X0_stands (g : WG) (as : List Value) (M : MM) (Q : Option Value → MM → Prop) : Prop := ∃ (q s : Nat), as = [.ref q, .ref (q + 5 + s), .int (whl (dv M q) (dn (dv M q)))] ∧ okD M q ∧ s < dn (dv M q) ∧ ∀ M', Sm (XF q) M M' → Q (some (.int (sta (xc M) (dv M q) s))) M'
set_option maxRecDepth 100000 in
set_option maxHeartbeats 1000000 in
theorem t_X0_stands {l : Launch} {g : WG} (hg : Full g) : Ct l g yX0_stands cX0_stands 3 ((Option.some FieldType.int)) 4 (T_X0_stands g) := by
  refine Ct.of (by decide) (fun as M Q h => ?_) (fun p e s m args below meth c as M Q h C => ?_)
  · obtain ⟨q, s0, rfl, hq, hs0, h⟩ := h; exact ⟨by simp, by simp [Value.category]⟩
  · obtain ⟨q, s0, rfl, hq, hs0, h⟩ := h
    obtain ⟨o1, o2, o3, o4, o5, ⟨l1, l2, l3, l4⟩, og, ok⟩ := day_ok hg hq.1
    have hqd := hq.1
    have so := seam_ok (s := s0) hg hqd (by have := hq.n; omega)
    obtain ⟨t, ht, hr4, htx, hrix⟩ := hq.rule
    refine s_of (fun lv st M0 hs => ?_) (WX0_stands_0 C (t_X0_ask hg) (by decide) (t_X4_value (tape_r hg)) (by decide) (t_X5_bounded hg) (by decide) (t_X1_standsBy hg) (by decide))
    obtain ⟨rfl, rfl, rfl⟩ := hs
    unfold BX0_stands_0
    generalize hB7 : BX0_stands_7 g Q (T_X0_ask g) (T_X4_value g) (T_X5_bounded g) (T_X1_standsBy g) = B7
    simp only [T_X0_ask, T_X4_value, T_X5_bounded, T_X1_standsBy, i_const, i_lconst, i_iload, i_aload, i_lload, i_istore, i_astore, i_lstore, i_iinc, i_bin, i_div, i_un, i_i2l, i_l2i, i_lbin, i_lcmp, i_if, i_icmp, i_dup, i_dup_x1, i_dup2, i_pop, i_geti, i_getr, i_getd, i_puti, i_putz, i_putd, i_iald, i_bald, i_aald, i_iast, i_bast, i_alen, i_keep, i_ret, i_retz, i_reta, i_retl, i_retv, i_callv, i_callk, i_calls, i_mm, i_copy, i_under, i_undld, i_ldcs, i_sw, q_swc0, q_swc1, q_lg0, q_lg1, q_lent0, q_lent1, lset, lset2, q_lins0, q_lins1, q_ldel0, q_ldel1, q_ldel20, q_ldel21, q_lkeep0, q_lkeep1, q_memb0, q_memb1, cat2, Nat.reduceBEq, decide_true, decide_false, decide_eq_true_eq, cond_true, cond_false, Bool.and_true, Bool.and_false, Bool.true_and, Bool.false_and, f_iadd, f_isub, f_imul, f_ishl, f_ishr, f_iushr, f_iand, f_ior, f_idiv, f_irem, f_ineg, f_i2b, f_i2s, f_ladd, f_lmul, c_eq, c_ne, c_lt, c_ge, c_gt, c_le, cc_eq, cc_ne, cc_lt, cc_ge, cc_gt, cc_le, rfo, aof, csum, Value.category, List.take, List.drop, List.reverse, List.reverseAux, List.map, List.sum_cons, List.sum_nil, List.cons_append, List.nil_append, Option.toList, List.mem_cons, List.not_mem_nil, List.length_cons, List.length_nil, reduceIte, Nat.reduceEqDiff, Nat.reduceAdd, Nat.reduceLeDiff, Nat.reduceLT, a_day, Nat.zero_ne_one, Nat.one_ne_zero, false_and, and_false, true_and, and_true, or_false, false_or, or_true, true_or, not_true_eq_false, not_false_eq_true, Nat.zero_add, Nat.add_zero, Nat.le_refl, Nat.lt_irrefl, Nat.zero_lt_succ, Nat.zero_le, forall_const, List.cons.injEq, Value.int.injEq, Value.ref.injEq, Value.long.injEq, and_assoc, exists_and_left, exists_eq_left']
    try simp only [forall_eq]
    refine ⟨og, ok, hqd, so, by omega, fun M1 hs1 e0 e1 e2 e3 e4 e5 => ?_⟩
    have hf := ask_fct (s := s0) hs0 e0 e1 e2 e3 e4 e5
    have hrd : rdv (M1 q 4) = .ref (8 + 4 * t) := by rw [hs1 q 4 (by show ¬ q = q + 4; omega), hr4]; exact rdv_n (by omega)
    subst hB7
    unfold BX0_stands_7
    generalize hB20 : BX0_stands_20 g Q (T_X0_ask g) (T_X4_value g) (T_X5_bounded g) (T_X1_standsBy g) = B20
    simp only [T_X0_ask, T_X4_value, T_X5_bounded, T_X1_standsBy, hrd, i_const, i_lconst, i_iload, i_aload, i_lload, i_istore, i_astore, i_lstore, i_iinc, i_bin, i_div, i_un, i_i2l, i_l2i, i_lbin, i_lcmp, i_if, i_icmp, i_dup, i_dup_x1, i_dup2, i_pop, i_geti, i_getr, i_getd, i_puti, i_putz, i_putd, i_iald, i_bald, i_aald, i_iast, i_bast, i_alen, i_keep, i_ret, i_retz, i_reta, i_retl, i_retv, i_callv, i_callk, i_calls, i_mm, i_copy, i_under, i_undld, i_ldcs, i_sw, q_swc0, q_swc1, q_lg0, q_lg1, q_lent0, q_lent1, lset, lset2, q_lins0, q_lins1, q_ldel0, q_ldel1, q_ldel20, q_ldel21, q_lkeep0, q_lkeep1, q_memb0, q_memb1, cat2, Nat.reduceBEq, decide_true, decide_false, decide_eq_true_eq, cond_true, cond_false, Bool.and_true, Bool.and_false, Bool.true_and, Bool.false_and, f_iadd, f_isub, f_imul, f_ishl, f_ishr, f_iushr, f_iand, f_ior, f_idiv, f_irem, f_ineg, f_i2b, f_i2s, f_ladd, f_lmul, c_eq, c_ne, c_lt, c_ge, c_gt, c_le, cc_eq, cc_ne, cc_lt, cc_ge, cc_gt, cc_le, rfo, aof, csum, Value.category, List.take, List.drop, List.reverse, List.reverseAux, List.map, List.sum_cons, List.sum_nil, List.cons_append, List.nil_append, Option.toList, List.mem_cons, List.not_mem_nil, List.length_cons, List.length_nil, reduceIte, Nat.reduceEqDiff, Nat.reduceAdd, Nat.reduceLeDiff, Nat.reduceLT, a_day, Nat.zero_ne_one, Nat.one_ne_zero, false_and, and_false, true_and, and_true, or_false, false_or, or_true, true_or, not_true_eq_false, not_false_eq_true, Nat.zero_add, Nat.add_zero, Nat.le_refl, Nat.lt_irrefl, Nat.zero_lt_succ, Nat.zero_le, forall_const, List.cons.injEq, Value.int.injEq, Value.ref.injEq, Value.long.injEq, and_assoc, exists_and_left, exists_eq_left']
    try simp only [forall_eq]
    have hx1 := xc_sm (r := 8 + 4 * t) hs1 (fun j => by unfold isD at hqd; show ¬ 8 + 4 * t + 1 = q + 4; omega) (fun j => by unfold isD at hqd; show ¬ 8 + 4 * t + 2 = q + 4; omega)
    have tk := text_ok (r := 8 + 4 * t) (tape_r hg) ⟨t, ht, rfl⟩
    refine ⟨o1, o1, tk.2.2.2.2.2.1, tk.2.2.2.2.2.2, 2, rfl, ⟨t, ht, rfl⟩, by omega, o5, l4, by unfold isD at hqd; omega, hx1.2 htx, fun M2 hs2 => ?_⟩
    subst hB20
    unfold BX0_stands_20
    generalize hB26 : BX0_stands_26 g Q (T_X0_ask g) (T_X4_value g) (T_X5_bounded g) (T_X1_standsBy g) = B26
    simp only [T_X0_ask, T_X4_value, T_X5_bounded, T_X1_standsBy, i_const, i_lconst, i_iload, i_aload, i_lload, i_istore, i_astore, i_lstore, i_iinc, i_bin, i_div, i_un, i_i2l, i_l2i, i_lbin, i_lcmp, i_if, i_icmp, i_dup, i_dup_x1, i_dup2, i_pop, i_geti, i_getr, i_getd, i_puti, i_putz, i_putd, i_iald, i_bald, i_aald, i_iast, i_bast, i_alen, i_keep, i_ret, i_retz, i_reta, i_retl, i_retv, i_callv, i_callk, i_calls, i_mm, i_copy, i_under, i_undld, i_ldcs, i_sw, q_swc0, q_swc1, q_lg0, q_lg1, q_lent0, q_lent1, lset, lset2, q_lins0, q_lins1, q_ldel0, q_ldel1, q_ldel20, q_ldel21, q_lkeep0, q_lkeep1, q_memb0, q_memb1, cat2, Nat.reduceBEq, decide_true, decide_false, decide_eq_true_eq, cond_true, cond_false, Bool.and_true, Bool.and_false, Bool.true_and, Bool.false_and, f_iadd, f_isub, f_imul, f_ishl, f_ishr, f_iushr, f_iand, f_ior, f_idiv, f_irem, f_ineg, f_i2b, f_i2s, f_ladd, f_lmul, c_eq, c_ne, c_lt, c_ge, c_gt, c_le, cc_eq, cc_ne, cc_lt, cc_ge, cc_gt, cc_le, rfo, aof, csum, Value.category, List.take, List.drop, List.reverse, List.reverseAux, List.map, List.sum_cons, List.sum_nil, List.cons_append, List.nil_append, Option.toList, List.mem_cons, List.not_mem_nil, List.length_cons, List.length_nil, reduceIte, Nat.reduceEqDiff, Nat.reduceAdd, Nat.reduceLeDiff, Nat.reduceLT, a_day, Nat.zero_ne_one, Nat.one_ne_zero, false_and, and_false, true_and, and_true, or_false, false_or, or_true, true_or, not_true_eq_false, not_false_eq_true, Nat.zero_add, Nat.add_zero, Nat.le_refl, Nat.lt_irrefl, Nat.zero_lt_succ, Nat.zero_le, forall_const, List.cons.injEq, Value.int.injEq, Value.ref.injEq, Value.long.injEq, and_assoc, exists_and_left, exists_eq_left']
    try simp only [forall_eq]
    refine ⟨by decide, ?_⟩
    have hsF : Sm (XF q) M0 M2 := (hs1.mono fun a _ e => Or.inl e).tr (hs2.mono fun a _ e => Or.inr (by unfold isPile; omega))
    have kk : ∀ j, j < 6 → M2 (q + 5 + s0) j = dv M0 q (j + 1) s0 := fun j hj => by rw [hsF _ _ (by unfold isD at hqd; unfold XF isPile; omega)]; exact (dv_s j hj hs0).symm
    subst hB26
    unfold BX0_stands_26
    simp only [T_X0_ask, T_X4_value, T_X5_bounded, T_X1_standsBy, i_const, i_lconst, i_iload, i_aload, i_lload, i_istore, i_astore, i_lstore, i_iinc, i_bin, i_div, i_un, i_i2l, i_l2i, i_lbin, i_lcmp, i_if, i_icmp, i_dup, i_dup_x1, i_dup2, i_pop, i_geti, i_getr, i_getd, i_puti, i_putz, i_putd, i_iald, i_bald, i_aald, i_iast, i_bast, i_alen, i_keep, i_ret, i_retz, i_reta, i_retl, i_retv, i_callv, i_callk, i_calls, i_mm, i_copy, i_under, i_undld, i_ldcs, i_sw, q_swc0, q_swc1, q_lg0, q_lg1, q_lent0, q_lent1, lset, lset2, q_lins0, q_lins1, q_ldel0, q_ldel1, q_ldel20, q_ldel21, q_lkeep0, q_lkeep1, q_memb0, q_memb1, cat2, Nat.reduceBEq, decide_true, decide_false, decide_eq_true_eq, cond_true, cond_false, Bool.and_true, Bool.and_false, Bool.true_and, Bool.false_and, f_iadd, f_isub, f_imul, f_ishl, f_ishr, f_iushr, f_iand, f_ior, f_idiv, f_irem, f_ineg, f_i2b, f_i2s, f_ladd, f_lmul, c_eq, c_ne, c_lt, c_ge, c_gt, c_le, cc_eq, cc_ne, cc_lt, cc_ge, cc_gt, cc_le, rfo, aof, csum, Value.category, List.take, List.drop, List.reverse, List.reverseAux, List.map, List.sum_cons, List.sum_nil, List.cons_append, List.nil_append, Option.toList, List.mem_cons, List.not_mem_nil, List.length_cons, List.length_nil, reduceIte, Nat.reduceEqDiff, Nat.reduceAdd, Nat.reduceLeDiff, Nat.reduceLT, a_day, Nat.zero_ne_one, Nat.one_ne_zero, false_and, and_false, true_and, and_true, or_false, false_or, or_true, true_or, not_true_eq_false, not_false_eq_true, Nat.zero_add, Nat.add_zero, Nat.le_refl, Nat.lt_irrefl, Nat.zero_lt_succ, Nat.zero_le, forall_const, List.cons.injEq, Value.int.injEq, Value.ref.injEq, Value.long.injEq, and_assoc, exists_and_left, exists_eq_left']
    try simp only [forall_eq]
    refine ⟨so.1, so.2.1, so, ?_⟩
    have := h M2 hsF
    rw [kk 0 (by omega), kk 1 (by omega), kk 2 (by omega), kk 3 (by omega), hx1.1, val_congr hf]
    unfold sta rul at this
    rw [hrix] at this
    exact this
    
