/-! ===== the model's run ===== -/
def runA (X : XV) (D : DV) (n w : Int32) : Int32 := if (0 ≤ n ∧ n ≤ 40) ∧ ((0 ≤ w ∧ w ≤ 2) ∨ (0 ≤ w - 10 ∧ w - 10 < nI (dn D))) then (if w = 0 then wor X (pasN X D n.toNatClampNeg) else if w = 1 then nI (dn D) - whl (pasN X D n.toNatClampNeg) (dn D) else if w = 2 then alw X D n.toNatClampNeg else wnb X D (w - 10).toNatClampNeg n.toNatClampNeg) else -1000000
/-- the slots of the laid back days -/
def YS (a b : Nat) : Prop := (a = 82 ∧ 7 ≤ b) ∨ (a = 83 ∧ 7 ≤ b) ∨ (a = 76 ∧ (b = 32 ∨ b = 36)) ∨ (89 ≤ a ∧ a ≤ 95)
theorem again_S {M M1 M2 : MM} (h1 : Sm YR M M1) (h2 : Sm YA M1 M2) (e0 : M2 76 0 = M1 76 32) (e32 : M1 76 32 = M 76 0) (hv : ∀ s, s < 7 → M1 93 s = M 82 s ∧ M1 94 s = M 83 s) (hw : ∀ s, s < 7 → M2 82 s = M1 93 s ∧ M2 83 s = M1 94 s) : Sm YS M M2 := by
  intro a b hy
  by_cases h82 : a = 82 ∧ b < 7
  · obtain ⟨rfl, hb⟩ := h82
    rw [(hw b hb).1, (hv b hb).1]
  · by_cases h83 : a = 83 ∧ b < 7
    · obtain ⟨rfl, hb⟩ := h83
      rw [(hw b hb).2, (hv b hb).2]
    · by_cases h0 : a = 76 ∧ b = 0
      · obtain ⟨rfl, rfl⟩ := h0
        rw [e0, e32]
      · rw [h2 a b (by unfold YA; unfold YS at hy; omega), h1 a b (by unfold YR; unfold YS at hy; omega)]
theorem YS_dm {M M' : MM} (h : Sm YS M M') (hn : dn (dm M) ≤ 7) : dm M' = dm M := dm_sm h (fun j => by unfold YS; omega) (fun j hj => by unfold YS; omega) (fun f s _ _ _ => by unfold YS; omega) hn
def T_X6_run (g : WG) (as : List Value) (M : MM) (Q : Option Value → MM → Prop) : Prop := ∃ n w, as = [.ref 76, .int n, .int w] ∧ okM M ∧ (∀ s, s < 7 → M 83 s = 0 ∨ M 83 s = 1) ∧ ∀ M', Sm YS M M' → Q (some (.int (runA (xm M) (dm M) n w))) M'
set_option maxRecDepth 100000 in
set_option maxHeartbeats 2000000 in
theorem t_X6_run {l : Launch} {g : WG} (hg : Full g) : Ct l g yX6_run cX6_run 4 ((Option.some FieldType.int)) 9 (T_X6_run g) := by
  refine Ct.of (by decide) (fun as M Q h => ?_) (fun p e s m args below meth c as M Q h C => ?_)
  · obtain ⟨n0, w, rfl, ho, hz, h⟩ := h; exact ⟨by simp, by simp [Value.category]⟩
  · obtain ⟨n0, w, rfl, ho, hz, h⟩ := h
    have hn := ho.n
    have hmany := ho.many
    obtain ⟨Tn, hwf, htx, h9⟩ := id ho
    refine s_of (fun lv st M0 hs => ?_) (WX6_run_0 C (t_X6_within hg) (by decide) (t_X6_isSeam hg) (by decide) (t_X6_runs hg) (by decide) (t_X6_whole hg) (by decide) (t_X6_worth hg) (by decide) (t_X6_again hg) (by decide))
    obtain ⟨rfl, rfl, rfl⟩ := hs
    unfold BX6_run_0
    generalize hB7 : BX6_run_7 g Q (T_X6_within g) (T_X6_isSeam g) (T_X6_runs g) (T_X6_whole g) (T_X6_worth g) (T_X6_again g) = B7
    simp only [T_X6_within, T_X6_isSeam, T_X6_runs, T_X6_whole, T_X6_worth, T_X6_again, i_const, i_lconst, i_iload, i_aload, i_lload, i_istore, i_astore, i_lstore, i_iinc, i_bin, i_div, i_un, i_i2l, i_l2i, i_lbin, i_lcmp, i_if, i_icmp, i_dup, i_dup_x1, i_dup2, i_pop, i_geti, i_getr, i_getd, i_puti, i_putz, i_putd, i_iald, i_bald, i_aald, i_iast, i_bast, i_alen, i_keep, i_ret, i_retz, i_reta, i_retl, i_retv, i_callv, i_callk, i_calls, i_mm, i_copy, i_under, i_undld, i_ldcs, i_sw, q_swc0, q_swc1, q_lg0, q_lg1, q_lent0, q_lent1, lset, lset2, q_lins0, q_lins1, q_ldel0, q_ldel1, q_ldel20, q_ldel21, q_lkeep0, q_lkeep1, q_memb0, q_memb1, cat2, Nat.reduceBEq, decide_true, decide_false, decide_eq_true_eq, cond_true, cond_false, Bool.and_true, Bool.and_false, Bool.true_and, Bool.false_and, f_iadd, f_isub, f_imul, f_ishl, f_ishr, f_iushr, f_iand, f_ior, f_idiv, f_irem, f_ineg, f_i2b, f_i2s, f_ladd, f_lmul, c_eq, c_ne, c_lt, c_ge, c_gt, c_le, cc_eq, cc_ne, cc_lt, cc_ge, cc_gt, cc_le, rfo, aof, csum, Value.category, List.take, List.drop, List.reverse, List.reverseAux, List.map, List.sum_cons, List.sum_nil, List.cons_append, List.nil_append, Option.toList, List.mem_cons, List.not_mem_nil, List.length_cons, List.length_nil, reduceIte, Nat.reduceEqDiff, Nat.reduceAdd, Nat.reduceLeDiff, Nat.reduceLT, a_day, Nat.zero_ne_one, Nat.one_ne_zero, false_and, and_false, true_and, and_true, or_false, false_or, or_true, true_or, not_true_eq_false, not_false_eq_true, Nat.zero_add, Nat.add_zero, Nat.le_refl, Nat.lt_irrefl, Nat.zero_lt_succ, Nat.zero_le, forall_const, List.cons.injEq, Value.int.injEq, Value.ref.injEq, Value.long.injEq, and_assoc, exists_and_left, exists_eq_left']
    try simp only [forall_eq]
    subst hB7
    unfold BX6_run_7
    generalize hB16 : BX6_run_16 g Q (T_X6_within g) (T_X6_isSeam g) (T_X6_runs g) (T_X6_whole g) (T_X6_worth g) (T_X6_again g) = B16
    simp only [T_X6_within, T_X6_isSeam, T_X6_runs, T_X6_whole, T_X6_worth, T_X6_again, i_const, i_lconst, i_iload, i_aload, i_lload, i_istore, i_astore, i_lstore, i_iinc, i_bin, i_div, i_un, i_i2l, i_l2i, i_lbin, i_lcmp, i_if, i_icmp, i_dup, i_dup_x1, i_dup2, i_pop, i_geti, i_getr, i_getd, i_puti, i_putz, i_putd, i_iald, i_bald, i_aald, i_iast, i_bast, i_alen, i_keep, i_ret, i_retz, i_reta, i_retl, i_retv, i_callv, i_callk, i_calls, i_mm, i_copy, i_under, i_undld, i_ldcs, i_sw, q_swc0, q_swc1, q_lg0, q_lg1, q_lent0, q_lent1, lset, lset2, q_lins0, q_lins1, q_ldel0, q_ldel1, q_ldel20, q_ldel21, q_lkeep0, q_lkeep1, q_memb0, q_memb1, cat2, Nat.reduceBEq, decide_true, decide_false, decide_eq_true_eq, cond_true, cond_false, Bool.and_true, Bool.and_false, Bool.true_and, Bool.false_and, f_iadd, f_isub, f_imul, f_ishl, f_ishr, f_iushr, f_iand, f_ior, f_idiv, f_irem, f_ineg, f_i2b, f_i2s, f_ladd, f_lmul, c_eq, c_ne, c_lt, c_ge, c_gt, c_le, cc_eq, cc_ne, cc_lt, cc_ge, cc_gt, cc_le, rfo, aof, csum, Value.category, List.take, List.drop, List.reverse, List.reverseAux, List.map, List.sum_cons, List.sum_nil, List.cons_append, List.nil_append, Option.toList, List.mem_cons, List.not_mem_nil, List.length_cons, List.length_nil, reduceIte, Nat.reduceEqDiff, Nat.reduceAdd, Nat.reduceLeDiff, Nat.reduceLT, a_day, Nat.zero_ne_one, Nat.one_ne_zero, false_and, and_false, true_and, and_true, or_false, false_or, or_true, true_or, not_true_eq_false, not_false_eq_true, Nat.zero_add, Nat.add_zero, Nat.le_refl, Nat.lt_irrefl, Nat.zero_lt_succ, Nat.zero_le, forall_const, List.cons.injEq, Value.int.injEq, Value.ref.injEq, Value.long.injEq, and_assoc, exists_and_left, exists_eq_left']
    try simp only [forall_eq]
    have go : (0 ≤ n0 ∧ n0 ≤ 40) → ((0 ≤ w ∧ w ≤ 2) ∨ (0 ≤ w - 10 ∧ w - 10 < nI (dn (dm M0)))) → BX6_run_34 g Q (T_X6_within g) (T_X6_isSeam g) (T_X6_runs g) (T_X6_whole g) (T_X6_worth g) (T_X6_again g) [(0, .ref 76), (1, .int n0), (2, .int w)] [] M0 := by
      intro c1 c2
      obtain ⟨n, hnn, rfl⟩ := nI_of (i_not_lt.mpr c1.1)
      have hn40 : n ≤ 40 := by
        have := c1.2
        rwa [show (40 : Int32) = nI 40 from rfl, nI_leI hnn (by decide)] at this
      have hr : runA (xm M0) (dm M0) (nI n) w = (if w = 0 then wor (xm M0) (pasN (xm M0) (dm M0) n) else if w = 1 then nI (dn (dm M0)) - whl (pasN (xm M0) (dm M0) n) (dn (dm M0)) else if w = 2 then alw (xm M0) (dm M0) n else wnb (xm M0) (dm M0) (w - 10).toNatClampNeg n) := by
        unfold runA; rw [if_pos ⟨c1, c2⟩, nI_clamp hnn]
      rw [hr] at h
      unfold BX6_run_34
      generalize hB39 : BX6_run_39 g Q (T_X6_within g) (T_X6_isSeam g) (T_X6_runs g) (T_X6_whole g) (T_X6_worth g) (T_X6_again g) = B39
      simp only [T_X6_runs, i_const, i_lconst, i_iload, i_aload, i_lload, i_istore, i_astore, i_lstore, i_iinc, i_bin, i_div, i_un, i_i2l, i_l2i, i_lbin, i_lcmp, i_if, i_icmp, i_dup, i_dup_x1, i_dup2, i_pop, i_geti, i_getr, i_getd, i_puti, i_putz, i_putd, i_iald, i_bald, i_aald, i_iast, i_bast, i_alen, i_keep, i_ret, i_retz, i_reta, i_retl, i_retv, i_callv, i_callk, i_calls, i_mm, i_copy, i_under, i_undld, i_ldcs, i_sw, q_swc0, q_swc1, q_lg0, q_lg1, q_lent0, q_lent1, lset, lset2, q_lins0, q_lins1, q_ldel0, q_ldel1, q_ldel20, q_ldel21, q_lkeep0, q_lkeep1, q_memb0, q_memb1, cat2, Nat.reduceBEq, decide_true, decide_false, decide_eq_true_eq, cond_true, cond_false, Bool.and_true, Bool.and_false, Bool.true_and, Bool.false_and, f_iadd, f_isub, f_imul, f_ishl, f_ishr, f_iushr, f_iand, f_ior, f_idiv, f_irem, f_ineg, f_i2b, f_i2s, f_ladd, f_lmul, c_eq, c_ne, c_lt, c_ge, c_gt, c_le, cc_eq, cc_ne, cc_lt, cc_ge, cc_gt, cc_le, rfo, aof, csum, Value.category, List.take, List.drop, List.reverse, List.reverseAux, List.map, List.sum_cons, List.sum_nil, List.cons_append, List.nil_append, Option.toList, List.mem_cons, List.not_mem_nil, List.length_cons, List.length_nil, reduceIte, Nat.reduceEqDiff, Nat.reduceAdd, Nat.reduceLeDiff, Nat.reduceLT, a_day, Nat.zero_ne_one, Nat.one_ne_zero, false_and, and_false, true_and, and_true, or_false, false_or, or_true, true_or, not_true_eq_false, not_false_eq_true, Nat.zero_add, Nat.add_zero, Nat.le_refl, Nat.lt_irrefl, Nat.zero_lt_succ, Nat.zero_le, forall_const, List.cons.injEq, Value.int.injEq, Value.ref.injEq, Value.long.injEq, and_assoc, exists_and_left, exists_eq_left']
      refine ⟨(m_76 hg).1, (m_76 hg).2.1, n, rfl, hn40, ho, hz, fun M1 hs1 hd1 h36 h95 h32 hv => ?_⟩
      obtain ⟨ko, kx⟩ := okM.to hs1 hd1 (wfD_pasN hwf n) htx h9 (by unfold YR; omega) (fun a b _ _ => by unfold YR; omega)
      have hm1 := ko.many
      rw [hd1, dn_pasN] at hm1
      have fin : ∀ M2 x, Sm YL M1 M2 → x = (if w = 0 then wor (xm M0) (pasN (xm M0) (dm M0) n) else if w = 1 then nI (dn (dm M0)) - whl (pasN (xm M0) (dm M0) n) (dn (dm M0)) else if w = 2 then alw (xm M0) (dm M0) n else wnb (xm M0) (dm M0) (w - 10).toNatClampNeg n) → BX6_run_88 g Q (T_X6_within g) (T_X6_isSeam g) (T_X6_runs g) (T_X6_whole g) (T_X6_worth g) (T_X6_again g) [(0, .ref 76), (1, .int (nI n)), (2, .int w)] [.int x] M2 := by
        intro M2 x hs2 hx
        subst hx
        have f2 : ∀ a b, (a < 89 ∨ 92 < a) → M2 a b = M1 a b := fun a b q => hs2 a b (by unfold YL; omega)
        unfold BX6_run_88
        simp only [T_X6_again, i_const, i_lconst, i_iload, i_aload, i_lload, i_istore, i_astore, i_lstore, i_iinc, i_bin, i_div, i_un, i_i2l, i_l2i, i_lbin, i_lcmp, i_if, i_icmp, i_dup, i_dup_x1, i_dup2, i_pop, i_geti, i_getr, i_getd, i_puti, i_putz, i_putd, i_iald, i_bald, i_aald, i_iast, i_bast, i_alen, i_keep, i_ret, i_retz, i_reta, i_retl, i_retv, i_callv, i_callk, i_calls, i_mm, i_copy, i_under, i_undld, i_ldcs, i_sw, q_swc0, q_swc1, q_lg0, q_lg1, q_lent0, q_lent1, lset, lset2, q_lins0, q_lins1, q_ldel0, q_ldel1, q_ldel20, q_ldel21, q_lkeep0, q_lkeep1, q_memb0, q_memb1, cat2, Nat.reduceBEq, decide_true, decide_false, decide_eq_true_eq, cond_true, cond_false, Bool.and_true, Bool.and_false, Bool.true_and, Bool.false_and, f_iadd, f_isub, f_imul, f_ishl, f_ishr, f_iushr, f_iand, f_ior, f_idiv, f_irem, f_ineg, f_i2b, f_i2s, f_ladd, f_lmul, c_eq, c_ne, c_lt, c_ge, c_gt, c_le, cc_eq, cc_ne, cc_lt, cc_ge, cc_gt, cc_le, rfo, aof, csum, Value.category, List.take, List.drop, List.reverse, List.reverseAux, List.map, List.sum_cons, List.sum_nil, List.cons_append, List.nil_append, Option.toList, List.mem_cons, List.not_mem_nil, List.length_cons, List.length_nil, reduceIte, Nat.reduceEqDiff, Nat.reduceAdd, Nat.reduceLeDiff, Nat.reduceLT, a_day, Nat.zero_ne_one, Nat.one_ne_zero, false_and, and_false, true_and, and_true, or_false, false_or, or_true, true_or, not_true_eq_false, not_false_eq_true, Nat.zero_add, Nat.add_zero, Nat.le_refl, Nat.lt_irrefl, Nat.zero_lt_succ, Nat.zero_le, forall_const, List.cons.injEq, Value.int.injEq, Value.ref.injEq, Value.long.injEq, and_assoc, exists_and_left, exists_eq_left']
        refine ⟨(m_76 hg).1, (m_76 hg).2.1, fun s h1 => by rw [f2 _ _ (by omega), (hv s h1).2]; exact hz s h1, fun M3 hs3 e0 hw => ?_⟩
        refine h M3 (again_S (hs1.tr (hs2.mono fun a b q => by unfold YL at q; unfold YR; omega)) hs3 e0 (by rw [f2 _ _ (by omega)]; exact h32) (fun s h1 => by rw [f2 _ _ (by omega), f2 _ _ (by omega)]; exact hv s h1) hw)
      subst hB39
      unfold BX6_run_39
      generalize hB47 : BX6_run_47 g Q (T_X6_within g) (T_X6_isSeam g) (T_X6_runs g) (T_X6_whole g) (T_X6_worth g) (T_X6_again g) = B47
      generalize hB63 : BX6_run_63 g Q (T_X6_within g) (T_X6_isSeam g) (T_X6_runs g) (T_X6_whole g) (T_X6_worth g) (T_X6_again g) = B63
      generalize hB88 : BX6_run_88 g Q (T_X6_within g) (T_X6_isSeam g) (T_X6_runs g) (T_X6_whole g) (T_X6_worth g) (T_X6_again g) = B88
      simp only [T_X6_within, T_X6_isSeam, T_X6_runs, T_X6_whole, T_X6_worth, T_X6_again, i_const, i_lconst, i_iload, i_aload, i_lload, i_istore, i_astore, i_lstore, i_iinc, i_bin, i_div, i_un, i_i2l, i_l2i, i_lbin, i_lcmp, i_if, i_icmp, i_dup, i_dup_x1, i_dup2, i_pop, i_geti, i_getr, i_getd, i_puti, i_putz, i_putd, i_iald, i_bald, i_aald, i_iast, i_bast, i_alen, i_keep, i_ret, i_retz, i_reta, i_retl, i_retv, i_callv, i_callk, i_calls, i_mm, i_copy, i_under, i_undld, i_ldcs, i_sw, q_swc0, q_swc1, q_lg0, q_lg1, q_lent0, q_lent1, lset, lset2, q_lins0, q_lins1, q_ldel0, q_ldel1, q_ldel20, q_ldel21, q_lkeep0, q_lkeep1, q_memb0, q_memb1, cat2, Nat.reduceBEq, decide_true, decide_false, decide_eq_true_eq, cond_true, cond_false, Bool.and_true, Bool.and_false, Bool.true_and, Bool.false_and, f_iadd, f_isub, f_imul, f_ishl, f_ishr, f_iushr, f_iand, f_ior, f_idiv, f_irem, f_ineg, f_i2b, f_i2s, f_ladd, f_lmul, c_eq, c_ne, c_lt, c_ge, c_gt, c_le, cc_eq, cc_ne, cc_lt, cc_ge, cc_gt, cc_le, rfo, aof, csum, Value.category, List.take, List.drop, List.reverse, List.reverseAux, List.map, List.sum_cons, List.sum_nil, List.cons_append, List.nil_append, Option.toList, List.mem_cons, List.not_mem_nil, List.length_cons, List.length_nil, reduceIte, Nat.reduceEqDiff, Nat.reduceAdd, Nat.reduceLeDiff, Nat.reduceLT, a_day, Nat.zero_ne_one, Nat.one_ne_zero, false_and, and_false, true_and, and_true, or_false, false_or, or_true, true_or, not_true_eq_false, not_false_eq_true, Nat.zero_add, Nat.add_zero, Nat.le_refl, Nat.lt_irrefl, Nat.zero_lt_succ, Nat.zero_le, forall_const, List.cons.injEq, Value.int.injEq, Value.ref.injEq, Value.long.injEq, and_assoc, exists_and_left, exists_eq_left']
      try simp only [forall_eq]
      rw [hd1, dn_pasN, hm1, h36]
      refine ⟨fun w0 => ⟨fun w1 => ⟨fun w2 => ?_, fun w2 => ⟨m_76 hg, ?_⟩⟩, fun w1 => ⟨m_76 hg, (m_76 hg).1, (m_76 hg).2.1, rfl, hn, ?_⟩⟩, fun w0 => ⟨(m_76 hg).1, (m_76 hg).2.1, ko, fun M2 hs2 _ => ?_⟩⟩
      · rcases c2 with ⟨a, b⟩ | ⟨a, b⟩
        · exfalso
          obtain ⟨k, hk, rfl⟩ := nI_of (i_not_lt.mpr a)
          rw [show (2 : Int32) = nI 2 from rfl, nI_leI hk (by decide)] at b
          have : k = 0 ∨ k = 1 ∨ k = 2 := by omega
          rcases this with e | e | e <;> subst e
          · exact w0 rfl
          · exact w1 rfl
          · exact w2 rfl
        · obtain ⟨k, hk, e⟩ := nI_of (i_not_lt.mpr a)
          rw [e] at b
          have hlt : k < dn (dm M0) := (nI_ltI hk (by omega)).mp b
          rw [e, nI_clamp hk, h95 k hlt]
          subst_vars
          refine ⟨m_76 hg, m_95 hg, vm l_95 (by omega) (by decide), fin M1 _ Sm.rf ?_⟩
          rw [if_neg w0, if_neg w1, if_neg w2, e, nI_clamp hk]
      · have w2 := Decidable.not_not.mp w2
        subst w2
        subst_vars
        exact fin M1 _ Sm.rf rfl
      · have w1 := Decidable.not_not.mp w1
        subst w1
        subst hB63
        unfold BX6_run_63
        generalize hB88 : BX6_run_88 g Q (T_X6_within g) (T_X6_isSeam g) (T_X6_runs g) (T_X6_whole g) (T_X6_worth g) (T_X6_again g) = B88
        simp only [T_X6_within, T_X6_isSeam, T_X6_runs, T_X6_whole, T_X6_worth, T_X6_again, i_const, i_lconst, i_iload, i_aload, i_lload, i_istore, i_astore, i_lstore, i_iinc, i_bin, i_div, i_un, i_i2l, i_l2i, i_lbin, i_lcmp, i_if, i_icmp, i_dup, i_dup_x1, i_dup2, i_pop, i_geti, i_getr, i_getd, i_puti, i_putz, i_putd, i_iald, i_bald, i_aald, i_iast, i_bast, i_alen, i_keep, i_ret, i_retz, i_reta, i_retl, i_retv, i_callv, i_callk, i_calls, i_mm, i_copy, i_under, i_undld, i_ldcs, i_sw, q_swc0, q_swc1, q_lg0, q_lg1, q_lent0, q_lent1, lset, lset2, q_lins0, q_lins1, q_ldel0, q_ldel1, q_ldel20, q_ldel21, q_lkeep0, q_lkeep1, q_memb0, q_memb1, cat2, Nat.reduceBEq, decide_true, decide_false, decide_eq_true_eq, cond_true, cond_false, Bool.and_true, Bool.and_false, Bool.true_and, Bool.false_and, f_iadd, f_isub, f_imul, f_ishl, f_ishr, f_iushr, f_iand, f_ior, f_idiv, f_irem, f_ineg, f_i2b, f_i2s, f_ladd, f_lmul, c_eq, c_ne, c_lt, c_ge, c_gt, c_le, cc_eq, cc_ne, cc_lt, cc_ge, cc_gt, cc_le, rfo, aof, csum, Value.category, List.take, List.drop, List.reverse, List.reverseAux, List.map, List.sum_cons, List.sum_nil, List.cons_append, List.nil_append, Option.toList, List.mem_cons, List.not_mem_nil, List.length_cons, List.length_nil, reduceIte, Nat.reduceEqDiff, Nat.reduceAdd, Nat.reduceLeDiff, Nat.reduceLT, a_day, Nat.zero_ne_one, Nat.one_ne_zero, false_and, and_false, true_and, and_true, or_false, false_or, or_true, true_or, not_true_eq_false, not_false_eq_true, Nat.zero_add, Nat.add_zero, Nat.le_refl, Nat.lt_irrefl, Nat.zero_lt_succ, Nat.zero_le, forall_const, List.cons.injEq, Value.int.injEq, Value.ref.injEq, Value.long.injEq, and_assoc, exists_and_left, exists_eq_left']
        try simp only [forall_eq]
        subst_vars
        exact fin M1 _ Sm.rf rfl
      · have w0 := Decidable.not_not.mp w0
        subst w0
        subst hB47
        unfold BX6_run_47
        subst_vars
        rw [kx]
        exact fin M2 _ hs2 rfl
    subst hB16
    unfold BX6_run_16
    generalize hB27 : BX6_run_27 g Q (T_X6_within g) (T_X6_isSeam g) (T_X6_runs g) (T_X6_whole g) (T_X6_worth g) (T_X6_again g) = B27
    generalize hB34 : BX6_run_34 g Q (T_X6_within g) (T_X6_isSeam g) (T_X6_runs g) (T_X6_whole g) (T_X6_worth g) (T_X6_again g) = B34
    simp only [T_X6_within, T_X6_isSeam, T_X6_runs, T_X6_whole, T_X6_worth, T_X6_again, i_const, i_lconst, i_iload, i_aload, i_lload, i_istore, i_astore, i_lstore, i_iinc, i_bin, i_div, i_un, i_i2l, i_l2i, i_lbin, i_lcmp, i_if, i_icmp, i_dup, i_dup_x1, i_dup2, i_pop, i_geti, i_getr, i_getd, i_puti, i_putz, i_putd, i_iald, i_bald, i_aald, i_iast, i_bast, i_alen, i_keep, i_ret, i_retz, i_reta, i_retl, i_retv, i_callv, i_callk, i_calls, i_mm, i_copy, i_under, i_undld, i_ldcs, i_sw, q_swc0, q_swc1, q_lg0, q_lg1, q_lent0, q_lent1, lset, lset2, q_lins0, q_lins1, q_ldel0, q_ldel1, q_ldel20, q_ldel21, q_lkeep0, q_lkeep1, q_memb0, q_memb1, cat2, Nat.reduceBEq, decide_true, decide_false, decide_eq_true_eq, cond_true, cond_false, Bool.and_true, Bool.and_false, Bool.true_and, Bool.false_and, f_iadd, f_isub, f_imul, f_ishl, f_ishr, f_iushr, f_iand, f_ior, f_idiv, f_irem, f_ineg, f_i2b, f_i2s, f_ladd, f_lmul, c_eq, c_ne, c_lt, c_ge, c_gt, c_le, cc_eq, cc_ne, cc_lt, cc_ge, cc_gt, cc_le, rfo, aof, csum, Value.category, List.take, List.drop, List.reverse, List.reverseAux, List.map, List.sum_cons, List.sum_nil, List.cons_append, List.nil_append, Option.toList, List.mem_cons, List.not_mem_nil, List.length_cons, List.length_nil, reduceIte, Nat.reduceEqDiff, Nat.reduceAdd, Nat.reduceLeDiff, Nat.reduceLT, a_day, Nat.zero_ne_one, Nat.one_ne_zero, false_and, and_false, true_and, and_true, or_false, false_or, or_true, true_or, not_true_eq_false, not_false_eq_true, Nat.zero_add, Nat.add_zero, Nat.le_refl, Nat.lt_irrefl, Nat.zero_lt_succ, Nat.zero_le, forall_const, List.cons.injEq, Value.int.injEq, Value.ref.injEq, Value.long.injEq, and_assoc, exists_and_left, exists_eq_left']
    try simp only [forall_eq]
    subst hB27
    unfold BX6_run_27
    generalize hB34 : BX6_run_34 g Q (T_X6_within g) (T_X6_isSeam g) (T_X6_runs g) (T_X6_whole g) (T_X6_worth g) (T_X6_again g) = B34
    simp only [T_X6_within, T_X6_isSeam, T_X6_runs, T_X6_whole, T_X6_worth, T_X6_again, i_const, i_lconst, i_iload, i_aload, i_lload, i_istore, i_astore, i_lstore, i_iinc, i_bin, i_div, i_un, i_i2l, i_l2i, i_lbin, i_lcmp, i_if, i_icmp, i_dup, i_dup_x1, i_dup2, i_pop, i_geti, i_getr, i_getd, i_puti, i_putz, i_putd, i_iald, i_bald, i_aald, i_iast, i_bast, i_alen, i_keep, i_ret, i_retz, i_reta, i_retl, i_retv, i_callv, i_callk, i_calls, i_mm, i_copy, i_under, i_undld, i_ldcs, i_sw, q_swc0, q_swc1, q_lg0, q_lg1, q_lent0, q_lent1, lset, lset2, q_lins0, q_lins1, q_ldel0, q_ldel1, q_ldel20, q_ldel21, q_lkeep0, q_lkeep1, q_memb0, q_memb1, cat2, Nat.reduceBEq, decide_true, decide_false, decide_eq_true_eq, cond_true, cond_false, Bool.and_true, Bool.and_false, Bool.true_and, Bool.false_and, f_iadd, f_isub, f_imul, f_ishl, f_ishr, f_iushr, f_iand, f_ior, f_idiv, f_irem, f_ineg, f_i2b, f_i2s, f_ladd, f_lmul, c_eq, c_ne, c_lt, c_ge, c_gt, c_le, cc_eq, cc_ne, cc_lt, cc_ge, cc_gt, cc_le, rfo, aof, csum, Value.category, List.take, List.drop, List.reverse, List.reverseAux, List.map, List.sum_cons, List.sum_nil, List.cons_append, List.nil_append, Option.toList, List.mem_cons, List.not_mem_nil, List.length_cons, List.length_nil, reduceIte, Nat.reduceEqDiff, Nat.reduceAdd, Nat.reduceLeDiff, Nat.reduceLT, a_day, Nat.zero_ne_one, Nat.one_ne_zero, false_and, and_false, true_and, and_true, or_false, false_or, or_true, true_or, not_true_eq_false, not_false_eq_true, Nat.zero_add, Nat.add_zero, Nat.le_refl, Nat.lt_irrefl, Nat.zero_lt_succ, Nat.zero_le, forall_const, List.cons.injEq, Value.int.injEq, Value.ref.injEq, Value.long.injEq, and_assoc, exists_and_left, exists_eq_left']
    try simp only [forall_eq]
    refine ⟨fun z => ?_, fun z => ⟨fun y => ?_, fun y => ⟨(m_76 hg).1, (m_76 hg).2.1, dn (dm M0), by omega, hmany, fun v => ?_, fun v => ?_⟩⟩⟩
    · have := h M0 Sm.rf
      unfold runA at this
      rwa [if_neg (fun q => b2i_0.mp z q.1)] at this
    · subst_vars
      exact go (Decidable.not_not.mp fun q => z (b2i_f q)) (Or.inl (Decidable.not_not.mp fun q => y (b2i_f q)))
    · subst_vars
      exact go (Decidable.not_not.mp fun q => z (b2i_f q)) (Or.inr (Decidable.not_not.mp fun q => v (b2i_f q)))
    · have := h M0 Sm.rf
      unfold runA at this
      rwa [if_neg (fun q => q.2.elim (b2i_0.mp (Decidable.not_not.mp y)) (b2i_0.mp (Decidable.not_not.mp v)))] at this
    
