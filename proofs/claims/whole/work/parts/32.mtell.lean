/-! ===== tells and film: the model ===== -/
theorem telN_60 {k : Nat} (hk : k < 60) : (nI k / 10 : Int32) = nI (k / 10) ∧ (nI k - nI k / 10 * 10 : Int32) = nI (k % 10) := by
  have e : (10 : Int32) = nI 10 := rfl
  exact ⟨by rw [e]; exact pk_div (by omega) (by decide) (by decide), by rw [e]; exact pk_rem (by omega) (by decide) (by decide)⟩
theorem tel_k {D : DV} {w : Int32} (hn : dn D ≤ 7) (h : (0 ≤ w ∧ w ≤ 1) ∨ ((10 ≤ w ∧ w ≤ 59) ∧ (0 ≤ w - w / 10 * 10 ∧ w - w / 10 * 10 < nI (dn D)))) : ∃ k, k < 60 ∧ w = nI k ∧ (k < 2 ∨ (10 ≤ k ∧ k % 10 < dn D)) := by
  have hw : ¬ w < 0 := by
    rcases h with h | h
    · exact i_not_lt.mpr h.1
    · have := h.1.1
      rw [i_le] at this
      rw [i_lt]
      have e : (10 : Int32).toInt = 10 := rfl
      have e0 : (0 : Int32).toInt = 0 := rfl
      omega
  obtain ⟨k, hk, rfl⟩ := nI_of hw
  rcases h with h | h
  · have := (nI_leI (b := 1) hk (by decide)).mp h.2
    exact ⟨k, by omega, rfl, Or.inl (by omega)⟩
  · have h1 := (nI_leI (b := 59) hk (by decide)).mp h.1.2
    have h2 := (nI_leI (a := 10) (by decide) hk).mp h.1.1
    have h3 := h.2.2
    rw [(telN_60 (by omega)).2] at h3
    exact ⟨k, by omega, rfl, Or.inr ⟨h2, (nI_ltI (by omega) (by omega)).mp h3⟩⟩
def T_X6_tells (g : WG) (as : List Value) (M : MM) (Q : Option Value → MM → Prop) : Prop := ∃ sh w T, as = [.ref 76, .int sh, .int w] ∧ okM M ∧ zM M ∧ M 76 12 = nI T ∧ wfD (dm M) T ∧ (∀ t, t < T → mtx M t) ∧ (∀ i, i < 4 → ∃ n, n ≤ 40 ∧ M 100 i = nI n) ∧ ∀ M', Sm YS M M' → Q (some (.int (telA (xm M) (dm M) T (M 99) (M 100) (fun i j => M 101 (40 * i + j)) sh w))) M'
set_option maxRecDepth 100000 in
set_option maxHeartbeats 2000000 in
theorem t_X6_tells {l : Launch} {g : WG} (hg : Full g) : Ct l g yX6_tells cX6_tells 4 ((Option.some FieldType.int)) 10 (T_X6_tells g) := by
  refine Ct.of (by decide) (fun as M Q h => ?_) (fun p e s m args below meth c as M Q h C => ?_)
  · obtain ⟨sh, w, T, rfl, ho, hz, hT, hwf, htx, hsz, h⟩ := h; exact ⟨by simp, by simp [Value.category]⟩
  · obtain ⟨sh, w, T, rfl, ho, hz, hT, hwf, htx, hsz, h⟩ := h
    have hn := ho.n
    have hmany := ho.many
    refine s_of (fun lv st M0 hs => ?_) (WX6_tells_0 C (t_X6_isSheet hg) (by decide) (t_X6_within hg) (by decide) (t_X6_isSeam hg) (by decide) (t_X6_textsSo hg) (by decide) (t_X6_wrong hg) (by decide) (t_X6_kindsSo hg) (by decide) (t_X6_numbersSo hg) (by decide) (t_X6_wornSo hg) (by decide) (t_X6_firstsSo hg) (by decide))
    obtain ⟨rfl, rfl, rfl⟩ := hs
    unfold BX6_tells_0
    generalize hB4 : BX6_tells_4 g Q (T_X6_isSheet g) (T_X6_within g) (T_X6_isSeam g) (T_X6_textsSo g) (T_X6_wrong g) (T_X6_kindsSo g) (T_X6_numbersSo g) (T_X6_wornSo g) (T_X6_firstsSo g) = B4
    simp only [T_X6_isSheet, T_X6_within, T_X6_isSeam, T_X6_textsSo, T_X6_wrong, T_X6_kindsSo, T_X6_numbersSo, T_X6_wornSo, T_X6_firstsSo, i_const, i_lconst, i_iload, i_aload, i_lload, i_istore, i_astore, i_lstore, i_iinc, i_bin, i_div, i_un, i_i2l, i_l2i, i_lbin, i_lcmp, i_if, i_icmp, i_dup, i_dup_x1, i_dup2, i_pop, i_geti, i_getr, i_getd, i_puti, i_putz, i_putd, i_iald, i_bald, i_aald, i_iast, i_bast, i_alen, i_keep, i_ret, i_retz, i_reta, i_retl, i_retv, i_callv, i_callk, i_calls, i_mm, i_copy, i_under, i_undld, i_ldcs, i_sw, q_swc0, q_swc1, q_lg0, q_lg1, q_lent0, q_lent1, lset, lset2, q_lins0, q_lins1, q_ldel0, q_ldel1, q_ldel20, q_ldel21, q_lkeep0, q_lkeep1, q_memb0, q_memb1, cat2, Nat.reduceBEq, decide_true, decide_false, decide_eq_true_eq, cond_true, cond_false, Bool.and_true, Bool.and_false, Bool.true_and, Bool.false_and, f_iadd, f_isub, f_imul, f_ishl, f_ishr, f_iushr, f_iand, f_ior, f_idiv, f_irem, f_ineg, f_i2b, f_i2s, f_ladd, f_lmul, c_eq, c_ne, c_lt, c_ge, c_gt, c_le, cc_eq, cc_ne, cc_lt, cc_ge, cc_gt, cc_le, rfo, aof, csum, Value.category, List.take, List.drop, List.reverse, List.reverseAux, List.map, List.sum_cons, List.sum_nil, List.cons_append, List.nil_append, Option.toList, List.mem_cons, List.not_mem_nil, List.length_cons, List.length_nil, reduceIte, Nat.reduceEqDiff, Nat.reduceAdd, Nat.reduceLeDiff, Nat.reduceLT, a_day, Nat.zero_ne_one, Nat.one_ne_zero, false_and, and_false, true_and, and_true, or_false, false_or, or_true, true_or, not_true_eq_false, not_false_eq_true, Nat.zero_add, Nat.add_zero, Nat.le_refl, Nat.lt_irrefl, Nat.zero_lt_succ, Nat.zero_le, forall_const, List.cons.injEq, Value.int.injEq, Value.ref.injEq, Value.long.injEq, and_assoc, exists_and_left, exists_eq_left']
    try simp only [forall_eq]
    have go : (0 ≤ sh ∧ sh ≤ 3) → ((0 ≤ w ∧ w ≤ 1) ∨ ((10 ≤ w ∧ w ≤ 59) ∧ (0 ≤ w - w / 10 * 10 ∧ w - w / 10 * 10 < nI (dn (dm M0))))) → BX6_tells_41 g Q (T_X6_isSheet g) (T_X6_within g) (T_X6_isSeam g) (T_X6_textsSo g) (T_X6_wrong g) (T_X6_kindsSo g) (T_X6_numbersSo g) (T_X6_wornSo g) (T_X6_firstsSo g) [(0, .ref 76), (1, .int sh), (2, .int w)] [] M0 := by
      intro c1 c2
      obtain ⟨i, hi31, hie⟩ := nI_of (i_not_lt.mpr c1.1)
      have hi : i < 4 := by
        have := c1.2
        rw [hie] at this
        have := (nI_leI (b := 3) hi31 (by decide)).mp this
        omega
      obtain ⟨k, hk60, hke, hkk⟩ := tel_k hn c2
      obtain ⟨n, h40, hn40⟩ := hsz i hi
      obtain ⟨d1, d2⟩ := telN_60 hk60
      rw [d1] at d2
      have hA : telA (xm M0) (dm M0) T (M0 99) (M0 100) (fun i j => M0 101 (40 * i + j)) sh w = if M0 99 i < 0 then -11 else telN (xm M0) (dm M0) T (fun j => M0 101 (40 * i + j)) n k := by
        unfold telA
        rw [if_neg (fun q => q c1), if_pos c2, hie, hke, nI_clamp hi31, nI_clamp (show k < 2 ^ 31 by omega), hn40, nI_clamp (show n < 2 ^ 31 by omega)]
      rw [hA] at h
      rw [hie, hke]
      unfold BX6_tells_41
      simp only [T_X6_textsSo, T_X6_wrong, T_X6_kindsSo, T_X6_numbersSo, T_X6_wornSo, T_X6_firstsSo, i_const, i_lconst, i_iload, i_aload, i_lload, i_istore, i_astore, i_lstore, i_iinc, i_bin, i_div, i_un, i_i2l, i_l2i, i_lbin, i_lcmp, i_if, i_icmp, i_dup, i_dup_x1, i_dup2, i_pop, i_geti, i_getr, i_getd, i_puti, i_putz, i_putd, i_iald, i_bald, i_aald, i_iast, i_bast, i_alen, i_keep, i_ret, i_retz, i_reta, i_retl, i_retv, i_callv, i_callk, i_calls, i_mm, i_copy, i_under, i_undld, i_ldcs, i_sw, q_swc0, q_swc1, q_lg0, q_lg1, q_lent0, q_lent1, lset, lset2, q_lins0, q_lins1, q_ldel0, q_ldel1, q_ldel20, q_ldel21, q_lkeep0, q_lkeep1, q_memb0, q_memb1, cat2, Nat.reduceBEq, decide_true, decide_false, decide_eq_true_eq, cond_true, cond_false, Bool.and_true, Bool.and_false, Bool.true_and, Bool.false_and, f_iadd, f_isub, f_imul, f_ishl, f_ishr, f_iushr, f_iand, f_ior, f_idiv, f_irem, f_ineg, f_i2b, f_i2s, f_ladd, f_lmul, c_eq, c_ne, c_lt, c_ge, c_gt, c_le, cc_eq, cc_ne, cc_lt, cc_ge, cc_gt, cc_le, rfo, aof, csum, Value.category, List.take, List.drop, List.reverse, List.reverseAux, List.map, List.sum_cons, List.sum_nil, List.cons_append, List.nil_append, Option.toList, List.mem_cons, List.not_mem_nil, List.length_cons, List.length_nil, reduceIte, Nat.reduceEqDiff, Nat.reduceAdd, Nat.reduceLeDiff, Nat.reduceLT, a_day, Nat.zero_ne_one, Nat.one_ne_zero, false_and, and_false, true_and, and_true, or_false, false_or, or_true, true_or, not_true_eq_false, not_false_eq_true, Nat.zero_add, Nat.add_zero, Nat.le_refl, Nat.lt_irrefl, Nat.zero_lt_succ, Nat.zero_le, forall_const, List.cons.injEq, Value.int.injEq, Value.ref.injEq, Value.long.injEq, and_assoc, exists_and_left, exists_eq_left', forall_eq]
      rw [nI_clamp hi31, d1, d2]
      have z : ∀ j, j < 10 → (nI (k / 10) = nI j ↔ k / 10 = j) := fun j hj => nI_eq (by omega) (by omega)
      have hge : ∀ j, k / 10 = j → 0 < j → 10 ≤ k ∧ k % 10 < dn (dm M0) := fun j hj h0 => by
        rcases hkk with q | q
        · omega
        · exact q
      refine ⟨m_76 hg, m_99 hg, vm l_99 hi (by decide), fun y => ?_, fun y => ?_⟩
      · rw [if_neg (i_not_lt.mpr y)] at h
        unfold telN at h
        refine ⟨by decide, by decide, fun e0 => ⟨fun e => ?_, fun e => ?_⟩, fun e0 => ⟨fun e1 => ?_, fun e1 => ⟨fun e2 => ?_, fun e2 => ⟨fun e3 => ?_, fun e3 => ⟨fun e4 => ?_, fun e4 => ?_⟩⟩⟩⟩⟩
        · have k0 := (z 0 (by decide)).mp e0
          have kn : ¬ k = 0 := fun q => e (by rw [q]; rfl)
          have k1 : k = 1 := by
            rcases hkk with q | q
            · omega
            · omega
          rw [if_neg kn, if_pos k1] at h
          exact ⟨(m_76 hg).1, (m_76 hg).2.1, i, rfl, hi, ho, hz, n, hn40, h40, T, hT, hwf, htx, fun M' hs' => h M' hs'⟩
        · have k0 : k = 0 := (nI_eq (b := 0) (by omega) (by decide)).mp (Decidable.not_not.mp e)
          rw [if_pos k0] at h
          exact ⟨(m_76 hg).1, (m_76 hg).2.1, i, rfl, hi, ho, hz, n, hn40, h40, fun M' hs' => h M' hs'⟩
        · have k1 := (z 1 (by decide)).mp e1
          rw [if_neg (by omega), if_neg (by omega), if_pos k1] at h
          exact ⟨(m_76 hg).1, (m_76 hg).2.1, i, rfl, n, k % 10, rfl, hi, (hge 1 k1 (by decide)).2, ho, hz, hn40, h40, fun M' hs' => h M' hs'⟩
        · have k1 := (z 2 (by decide)).mp e2
          rw [if_neg (by omega), if_neg (by omega), if_neg (by omega), if_pos k1] at h
          exact ⟨(m_76 hg).1, (m_76 hg).2.1, i, rfl, n, k % 10, rfl, hi, (hge 2 k1 (by decide)).2, ho, hz, hn40, h40, fun M' hs' => h M' hs'⟩
        · have k1 := (z 3 (by decide)).mp e3
          rw [if_neg (by omega), if_neg (by omega), if_neg (by omega), if_neg (by omega), if_pos k1] at h
          exact ⟨(m_76 hg).1, (m_76 hg).2.1, i, rfl, n, k % 10, rfl, hi, (hge 3 k1 (by decide)).2, ho, hz, hn40, h40, fun M' hs' => by
            try rw [if_pos rfl]
            exact h M' hs'⟩
        · have k1 := (z 4 (by decide)).mp e4
          rw [if_neg (by omega), if_neg (by omega), if_neg (by omega), if_neg (by omega), if_neg (by omega), if_pos k1] at h
          exact ⟨(m_76 hg).1, (m_76 hg).2.1, i, rfl, n, k % 10, rfl, hi, (hge 4 k1 (by decide)).2, ho, hz, hn40, h40, fun M' hs' => by
            try rw [if_neg (by decide)]
            exact h M' hs'⟩
        · have n0 : ¬ k / 10 = 0 := fun q => e0 ((z 0 (by decide)).mpr q)
          have n1 : ¬ k / 10 = 1 := fun q => e1 ((z 1 (by decide)).mpr q)
          have n2 : ¬ k / 10 = 2 := fun q => e2 ((z 2 (by decide)).mpr q)
          have n3 : ¬ k / 10 = 3 := fun q => e3 ((z 3 (by decide)).mpr q)
          have n4 : ¬ k / 10 = 4 := fun q => e4 ((z 4 (by decide)).mpr q)
          rw [if_neg (by omega), if_neg (by omega), if_neg n1, if_neg n2, if_neg n3, if_neg n4] at h
          exact ⟨(m_76 hg).1, (m_76 hg).2.1, i, rfl, n, k % 10, rfl, hi, (hge (k / 10) rfl (by omega)).2, ho, hz, hn40, h40, fun M' hs' => h M' hs'⟩
      · rw [if_pos (i_not_le.mp y)] at h
        exact h M0 Sm.rf
    have bad : ¬ ((0 ≤ sh ∧ sh ≤ 3) ∧ ((0 ≤ w ∧ w ≤ 1) ∨ ((10 ≤ w ∧ w ≤ 59) ∧ (0 ≤ w - w / 10 * 10 ∧ w - w / 10 * 10 < nI (dn (dm M0)))))) → Q (some (.int (-2))) M0 := by
      intro c
      have := h M0 Sm.rf
      unfold telA at this
      by_cases c1 : 0 ≤ sh ∧ sh ≤ 3
      · rw [if_neg (fun q => q c1), if_neg (fun q => c ⟨c1, q⟩)] at this
        exact this
      · rw [if_pos c1] at this
        exact this
    subst hB4
    unfold BX6_tells_4
    generalize hB13 : BX6_tells_13 g Q (T_X6_isSheet g) (T_X6_within g) (T_X6_isSeam g) (T_X6_textsSo g) (T_X6_wrong g) (T_X6_kindsSo g) (T_X6_numbersSo g) (T_X6_wornSo g) (T_X6_firstsSo g) = B13
    simp only [T_X6_isSheet, T_X6_within, T_X6_isSeam, T_X6_textsSo, T_X6_wrong, T_X6_kindsSo, T_X6_numbersSo, T_X6_wornSo, T_X6_firstsSo, i_const, i_lconst, i_iload, i_aload, i_lload, i_istore, i_astore, i_lstore, i_iinc, i_bin, i_div, i_un, i_i2l, i_l2i, i_lbin, i_lcmp, i_if, i_icmp, i_dup, i_dup_x1, i_dup2, i_pop, i_geti, i_getr, i_getd, i_puti, i_putz, i_putd, i_iald, i_bald, i_aald, i_iast, i_bast, i_alen, i_keep, i_ret, i_retz, i_reta, i_retl, i_retv, i_callv, i_callk, i_calls, i_mm, i_copy, i_under, i_undld, i_ldcs, i_sw, q_swc0, q_swc1, q_lg0, q_lg1, q_lent0, q_lent1, lset, lset2, q_lins0, q_lins1, q_ldel0, q_ldel1, q_ldel20, q_ldel21, q_lkeep0, q_lkeep1, q_memb0, q_memb1, cat2, Nat.reduceBEq, decide_true, decide_false, decide_eq_true_eq, cond_true, cond_false, Bool.and_true, Bool.and_false, Bool.true_and, Bool.false_and, f_iadd, f_isub, f_imul, f_ishl, f_ishr, f_iushr, f_iand, f_ior, f_idiv, f_irem, f_ineg, f_i2b, f_i2s, f_ladd, f_lmul, c_eq, c_ne, c_lt, c_ge, c_gt, c_le, cc_eq, cc_ne, cc_lt, cc_ge, cc_gt, cc_le, rfo, aof, csum, Value.category, List.take, List.drop, List.reverse, List.reverseAux, List.map, List.sum_cons, List.sum_nil, List.cons_append, List.nil_append, Option.toList, List.mem_cons, List.not_mem_nil, List.length_cons, List.length_nil, reduceIte, Nat.reduceEqDiff, Nat.reduceAdd, Nat.reduceLeDiff, Nat.reduceLT, a_day, Nat.zero_ne_one, Nat.one_ne_zero, false_and, and_false, true_and, and_true, or_false, false_or, or_true, true_or, not_true_eq_false, not_false_eq_true, Nat.zero_add, Nat.add_zero, Nat.le_refl, Nat.lt_irrefl, Nat.zero_lt_succ, Nat.zero_le, forall_const, List.cons.injEq, Value.int.injEq, Value.ref.injEq, Value.long.injEq, and_assoc, exists_and_left, exists_eq_left']
    try simp only [forall_eq]
    refine ⟨fun z1 => bad (fun q => b2n z1 q.1), fun z1 => ?_⟩
    subst hB13
    unfold BX6_tells_13
    generalize hB24 : BX6_tells_24 g Q (T_X6_isSheet g) (T_X6_within g) (T_X6_isSeam g) (T_X6_textsSo g) (T_X6_wrong g) (T_X6_kindsSo g) (T_X6_numbersSo g) (T_X6_wornSo g) (T_X6_firstsSo g) = B24
    generalize hB41 : BX6_tells_41 g Q (T_X6_isSheet g) (T_X6_within g) (T_X6_isSeam g) (T_X6_textsSo g) (T_X6_wrong g) (T_X6_kindsSo g) (T_X6_numbersSo g) (T_X6_wornSo g) (T_X6_firstsSo g) = B41
    simp only [T_X6_isSheet, T_X6_within, T_X6_isSeam, T_X6_textsSo, T_X6_wrong, T_X6_kindsSo, T_X6_numbersSo, T_X6_wornSo, T_X6_firstsSo, i_const, i_lconst, i_iload, i_aload, i_lload, i_istore, i_astore, i_lstore, i_iinc, i_bin, i_div, i_un, i_i2l, i_l2i, i_lbin, i_lcmp, i_if, i_icmp, i_dup, i_dup_x1, i_dup2, i_pop, i_geti, i_getr, i_getd, i_puti, i_putz, i_putd, i_iald, i_bald, i_aald, i_iast, i_bast, i_alen, i_keep, i_ret, i_retz, i_reta, i_retl, i_retv, i_callv, i_callk, i_calls, i_mm, i_copy, i_under, i_undld, i_ldcs, i_sw, q_swc0, q_swc1, q_lg0, q_lg1, q_lent0, q_lent1, lset, lset2, q_lins0, q_lins1, q_ldel0, q_ldel1, q_ldel20, q_ldel21, q_lkeep0, q_lkeep1, q_memb0, q_memb1, cat2, Nat.reduceBEq, decide_true, decide_false, decide_eq_true_eq, cond_true, cond_false, Bool.and_true, Bool.and_false, Bool.true_and, Bool.false_and, f_iadd, f_isub, f_imul, f_ishl, f_ishr, f_iushr, f_iand, f_ior, f_idiv, f_irem, f_ineg, f_i2b, f_i2s, f_ladd, f_lmul, c_eq, c_ne, c_lt, c_ge, c_gt, c_le, cc_eq, cc_ne, cc_lt, cc_ge, cc_gt, cc_le, rfo, aof, csum, Value.category, List.take, List.drop, List.reverse, List.reverseAux, List.map, List.sum_cons, List.sum_nil, List.cons_append, List.nil_append, Option.toList, List.mem_cons, List.not_mem_nil, List.length_cons, List.length_nil, reduceIte, Nat.reduceEqDiff, Nat.reduceAdd, Nat.reduceLeDiff, Nat.reduceLT, a_day, Nat.zero_ne_one, Nat.one_ne_zero, false_and, and_false, true_and, and_true, or_false, false_or, or_true, true_or, not_true_eq_false, not_false_eq_true, Nat.zero_add, Nat.add_zero, Nat.le_refl, Nat.lt_irrefl, Nat.zero_lt_succ, Nat.zero_le, forall_const, List.cons.injEq, Value.int.injEq, Value.ref.injEq, Value.long.injEq, and_assoc, exists_and_left, exists_eq_left']
    try simp only [forall_eq]
    refine ⟨fun z2 => ?_, fun z2 => ?_⟩
    · subst_vars; exact go (b2t z1) (Or.inl (b2t z2))
    · have z2 := Decidable.not_not.mp z2
      subst hB24
      unfold BX6_tells_24
      generalize hB35 : BX6_tells_35 g Q (T_X6_isSheet g) (T_X6_within g) (T_X6_isSeam g) (T_X6_textsSo g) (T_X6_wrong g) (T_X6_kindsSo g) (T_X6_numbersSo g) (T_X6_wornSo g) (T_X6_firstsSo g) = B35
      simp only [T_X6_isSheet, T_X6_within, T_X6_isSeam, T_X6_textsSo, T_X6_wrong, T_X6_kindsSo, T_X6_numbersSo, T_X6_wornSo, T_X6_firstsSo, i_const, i_lconst, i_iload, i_aload, i_lload, i_istore, i_astore, i_lstore, i_iinc, i_bin, i_div, i_un, i_i2l, i_l2i, i_lbin, i_lcmp, i_if, i_icmp, i_dup, i_dup_x1, i_dup2, i_pop, i_geti, i_getr, i_getd, i_puti, i_putz, i_putd, i_iald, i_bald, i_aald, i_iast, i_bast, i_alen, i_keep, i_ret, i_retz, i_reta, i_retl, i_retv, i_callv, i_callk, i_calls, i_mm, i_copy, i_under, i_undld, i_ldcs, i_sw, q_swc0, q_swc1, q_lg0, q_lg1, q_lent0, q_lent1, lset, lset2, q_lins0, q_lins1, q_ldel0, q_ldel1, q_ldel20, q_ldel21, q_lkeep0, q_lkeep1, q_memb0, q_memb1, cat2, Nat.reduceBEq, decide_true, decide_false, decide_eq_true_eq, cond_true, cond_false, Bool.and_true, Bool.and_false, Bool.true_and, Bool.false_and, f_iadd, f_isub, f_imul, f_ishl, f_ishr, f_iushr, f_iand, f_ior, f_idiv, f_irem, f_ineg, f_i2b, f_i2s, f_ladd, f_lmul, c_eq, c_ne, c_lt, c_ge, c_gt, c_le, cc_eq, cc_ne, cc_lt, cc_ge, cc_gt, cc_le, rfo, aof, csum, Value.category, List.take, List.drop, List.reverse, List.reverseAux, List.map, List.sum_cons, List.sum_nil, List.cons_append, List.nil_append, Option.toList, List.mem_cons, List.not_mem_nil, List.length_cons, List.length_nil, reduceIte, Nat.reduceEqDiff, Nat.reduceAdd, Nat.reduceLeDiff, Nat.reduceLT, a_day, Nat.zero_ne_one, Nat.one_ne_zero, false_and, and_false, true_and, and_true, or_false, false_or, or_true, true_or, not_true_eq_false, not_false_eq_true, Nat.zero_add, Nat.add_zero, Nat.le_refl, Nat.lt_irrefl, Nat.zero_lt_succ, Nat.zero_le, forall_const, List.cons.injEq, Value.int.injEq, Value.ref.injEq, Value.long.injEq, and_assoc, exists_and_left, exists_eq_left']
      try simp only [forall_eq]
      refine ⟨fun z3 => bad (fun q => q.2.elim (b2n z2) (fun q => b2n z3 q.1)), fun z3 => ⟨by decide, (m_76 hg).1, (m_76 hg).2.1, dn (dm M0), by omega, hmany, ?_⟩⟩
      subst hB35
      unfold BX6_tells_35
      generalize hB41 : BX6_tells_41 g Q (T_X6_isSheet g) (T_X6_within g) (T_X6_isSeam g) (T_X6_textsSo g) (T_X6_wrong g) (T_X6_kindsSo g) (T_X6_numbersSo g) (T_X6_wornSo g) (T_X6_firstsSo g) = B41
      simp only [T_X6_isSheet, T_X6_within, T_X6_isSeam, T_X6_textsSo, T_X6_wrong, T_X6_kindsSo, T_X6_numbersSo, T_X6_wornSo, T_X6_firstsSo, i_const, i_lconst, i_iload, i_aload, i_lload, i_istore, i_astore, i_lstore, i_iinc, i_bin, i_div, i_un, i_i2l, i_l2i, i_lbin, i_lcmp, i_if, i_icmp, i_dup, i_dup_x1, i_dup2, i_pop, i_geti, i_getr, i_getd, i_puti, i_putz, i_putd, i_iald, i_bald, i_aald, i_iast, i_bast, i_alen, i_keep, i_ret, i_retz, i_reta, i_retl, i_retv, i_callv, i_callk, i_calls, i_mm, i_copy, i_under, i_undld, i_ldcs, i_sw, q_swc0, q_swc1, q_lg0, q_lg1, q_lent0, q_lent1, lset, lset2, q_lins0, q_lins1, q_ldel0, q_ldel1, q_ldel20, q_ldel21, q_lkeep0, q_lkeep1, q_memb0, q_memb1, cat2, Nat.reduceBEq, decide_true, decide_false, decide_eq_true_eq, cond_true, cond_false, Bool.and_true, Bool.and_false, Bool.true_and, Bool.false_and, f_iadd, f_isub, f_imul, f_ishl, f_ishr, f_iushr, f_iand, f_ior, f_idiv, f_irem, f_ineg, f_i2b, f_i2s, f_ladd, f_lmul, c_eq, c_ne, c_lt, c_ge, c_gt, c_le, cc_eq, cc_ne, cc_lt, cc_ge, cc_gt, cc_le, rfo, aof, csum, Value.category, List.take, List.drop, List.reverse, List.reverseAux, List.map, List.sum_cons, List.sum_nil, List.cons_append, List.nil_append, Option.toList, List.mem_cons, List.not_mem_nil, List.length_cons, List.length_nil, reduceIte, Nat.reduceEqDiff, Nat.reduceAdd, Nat.reduceLeDiff, Nat.reduceLT, a_day, Nat.zero_ne_one, Nat.one_ne_zero, false_and, and_false, true_and, and_true, or_false, false_or, or_true, true_or, not_true_eq_false, not_false_eq_true, Nat.zero_add, Nat.add_zero, Nat.le_refl, Nat.lt_irrefl, Nat.zero_lt_succ, Nat.zero_le, forall_const, List.cons.injEq, Value.int.injEq, Value.ref.injEq, Value.long.injEq, and_assoc, exists_and_left, exists_eq_left']
      try simp only [forall_eq]
      refine ⟨fun z4 => ?_, fun z4 => bad (fun q => q.2.elim (b2n z2) (fun q => b2n (Decidable.not_not.mp z4) q.2))⟩
      subst_vars; exact go (b2t z1) (Or.inr ⟨b2t z3, b2t z4⟩)
def shA (sh srt n : Int32) : Int32 := if ¬ ((0 ≤ sh ∧ sh ≤ 3) ∧ (-1 ≤ srt ∧ srt ≤ 2)) then -2 else if 0 ≤ srt ∧ n < 0 then -14 else if 0 ≤ srt ∧ 40 < n then -2 else 1
def T_X6_sheet (g : WG) (as : List Value) (M : MM) (Q : Option Value → MM → Prop) : Prop := ∃ sh srt n, as = [.ref 76, .int sh, .int srt, .int n] ∧ (¬ shA sh srt n = 1 → Q (some (.int (shA sh srt n))) M) ∧ (shA sh srt n = 1 → ∀ i M', sh = nI i → i < 4 → Sm (fun a b => (a = 99 ∧ b = i) ∨ (a = 100 ∧ b = i) ∨ (a = 101 ∧ 40 * i ≤ b ∧ b < 40 * i + 40)) M M' → M' 99 i = srt → M' 100 i = (if srt < 0 then 0 else n) → (∀ j, j < 40 → M' 101 (40 * i + j) = 0) → Q (some (.int 1)) M')
set_option maxRecDepth 100000 in
set_option maxHeartbeats 1000000 in
theorem t_X6_sheet {l : Launch} {g : WG} (hg : Full g) : Ct l g yX6_sheet cX6_sheet 5 ((Option.some FieldType.int)) 3 (T_X6_sheet g) := by
  refine Ct.of (by decide) (fun as M Q h => ?_) (fun p e s m args below meth c as M Q h C => ?_)
  · obtain ⟨sh, srt, n0, rfl, hb, h⟩ := h; exact ⟨by simp, by simp [Value.category]⟩
  · obtain ⟨sh, srt, n0, rfl, hb, h⟩ := h
    obtain ⟨I68, hI68⟩ : ∃ I : Nat → PP, I = (fun n lv st M' => ∃ k i, sh = nI i ∧ i < 4 ∧ lv = [(0, .ref 76), (1, .int sh), (4, .int (nI k))] ∧ st = [] ∧ k ≤ 40 ∧ n = 40 - k ∧ shA sh srt n0 = 1 ∧ Sm (fun a b => (a = 99 ∧ b = i) ∨ (a = 100 ∧ b = i) ∨ (a = 101 ∧ 40 * i ≤ b ∧ b < 40 * i + 40)) M M' ∧ M' 99 i = srt ∧ M' 100 i = (if srt < 0 then 0 else n0) ∧ ∀ j, j < k → M' 101 (40 * i + j) = 0) := ⟨_, rfl⟩
    obtain ⟨E68, hE68⟩ : ∃ E : PP, E = (fun lv st M => ∃ n, I68 n lv st M) := ⟨_, rfl⟩
    have iE68 : ∀ n lv st M, I68 n lv st M → E68 lv st M := fun n lv st M h => by rw [hE68]; exact ⟨n, h⟩
    have L68 : Sj p l e 3 s m args below meth c 5 g (MQ below (cQc g Q) args s 0 0 (gA g)) 68 E68 := by
      rw [hE68]
      refine s_ex (s_loop I68 (fun K68 k68 => WX6_sheet_68 C (t_X6_isSheet hg) (by decide) (t_X6_within hg) (by decide) k68) ?_)
      intro n lv st M1 K68 hK68 hI; rw [hI68] at hI; obtain ⟨k, i, hie, hi, rfl, rfl, hk, rfl, c, hs, h99, h100, hz⟩ := hI
      unfold BX6_sheet_68
      simp only [T_X6_isSheet, T_X6_within, i_const, i_lconst, i_iload, i_aload, i_lload, i_istore, i_astore, i_lstore, i_iinc, i_bin, i_div, i_un, i_i2l, i_l2i, i_lbin, i_lcmp, i_if, i_icmp, i_dup, i_dup_x1, i_dup2, i_pop, i_geti, i_getr, i_getd, i_puti, i_putz, i_putd, i_iald, i_bald, i_aald, i_iast, i_bast, i_alen, i_keep, i_ret, i_retz, i_reta, i_retl, i_retv, i_callv, i_callk, i_calls, i_mm, i_copy, i_under, i_undld, i_ldcs, i_sw, q_swc0, q_swc1, q_lg0, q_lg1, q_lent0, q_lent1, lset, lset2, q_lins0, q_lins1, q_ldel0, q_ldel1, q_ldel20, q_ldel21, q_lkeep0, q_lkeep1, q_memb0, q_memb1, cat2, Nat.reduceBEq, decide_true, decide_false, decide_eq_true_eq, cond_true, cond_false, Bool.and_true, Bool.and_false, Bool.true_and, Bool.false_and, f_iadd, f_isub, f_imul, f_ishl, f_ishr, f_iushr, f_iand, f_ior, f_idiv, f_irem, f_ineg, f_i2b, f_i2s, f_ladd, f_lmul, c_eq, c_ne, c_lt, c_ge, c_gt, c_le, cc_eq, cc_ne, cc_lt, cc_ge, cc_gt, cc_le, rfo, aof, csum, Value.category, List.take, List.drop, List.reverse, List.reverseAux, List.map, List.sum_cons, List.sum_nil, List.cons_append, List.nil_append, Option.toList, List.mem_cons, List.not_mem_nil, List.length_cons, List.length_nil, reduceIte, Nat.reduceEqDiff, Nat.reduceAdd, Nat.reduceLeDiff, Nat.reduceLT, a_day, Nat.zero_ne_one, Nat.one_ne_zero, false_and, and_false, true_and, and_true, or_false, false_or, or_true, true_or, not_true_eq_false, not_false_eq_true, Nat.zero_add, Nat.add_zero, Nat.le_refl, Nat.lt_irrefl, Nat.zero_lt_succ, Nat.zero_le, forall_const, List.cons.injEq, Value.int.injEq, Value.ref.injEq, Value.long.injEq, and_assoc, exists_and_left, exists_eq_left']
      try simp only [forall_eq]
      rw [show (40 : Int32) = nI 40 from rfl, nI_leI (by decide) (by omega)]
      refine ⟨fun z => ?_, fun z => ?_⟩
      · have : k = 40 := by omega
        subst this
        exact h c i M1 hie hi hs h99 h100 hz
      · rw [hie, pk_mul, nI_add, nI_clamp (by omega), nI_1]
        refine ⟨m_76 hg, m_101 hg, vm l_101 (by omega) (by decide), hK68 (40 - (k + 1)) _ _ _ (by omega) ?_⟩
        rw [hI68]
        refine ⟨k + 1, i, hie, hi, by rw [hie], rfl, by omega, rfl, c, hs.set _ (Or.inr (Or.inr ⟨rfl, by omega, by omega⟩)), by rw [ms_q (by decide)]; exact h99, by rw [ms_q (by decide)]; exact h100, fun j hj => ?_⟩
        by_cases e : j = k
        · subst e; rw [ms_s]
        · rw [ms_j (by omega)]; exact hz j (by omega)
    refine s_of (fun lv st M0 hs => ?_) (WX6_sheet_0 C (t_X6_isSheet hg) (by decide) (t_X6_within hg) (by decide) L68)
    obtain ⟨rfl, rfl, rfl⟩ := hs
    unfold BX6_sheet_0
    generalize hB4 : BX6_sheet_4 g Q (T_X6_isSheet g) (T_X6_within g) E68 = B4
    simp only [T_X6_isSheet, T_X6_within, i_const, i_lconst, i_iload, i_aload, i_lload, i_istore, i_astore, i_lstore, i_iinc, i_bin, i_div, i_un, i_i2l, i_l2i, i_lbin, i_lcmp, i_if, i_icmp, i_dup, i_dup_x1, i_dup2, i_pop, i_geti, i_getr, i_getd, i_puti, i_putz, i_putd, i_iald, i_bald, i_aald, i_iast, i_bast, i_alen, i_keep, i_ret, i_retz, i_reta, i_retl, i_retv, i_callv, i_callk, i_calls, i_mm, i_copy, i_under, i_undld, i_ldcs, i_sw, q_swc0, q_swc1, q_lg0, q_lg1, q_lent0, q_lent1, lset, lset2, q_lins0, q_lins1, q_ldel0, q_ldel1, q_ldel20, q_ldel21, q_lkeep0, q_lkeep1, q_memb0, q_memb1, cat2, Nat.reduceBEq, decide_true, decide_false, decide_eq_true_eq, cond_true, cond_false, Bool.and_true, Bool.and_false, Bool.true_and, Bool.false_and, f_iadd, f_isub, f_imul, f_ishl, f_ishr, f_iushr, f_iand, f_ior, f_idiv, f_irem, f_ineg, f_i2b, f_i2s, f_ladd, f_lmul, c_eq, c_ne, c_lt, c_ge, c_gt, c_le, cc_eq, cc_ne, cc_lt, cc_ge, cc_gt, cc_le, rfo, aof, csum, Value.category, List.take, List.drop, List.reverse, List.reverseAux, List.map, List.sum_cons, List.sum_nil, List.cons_append, List.nil_append, Option.toList, List.mem_cons, List.not_mem_nil, List.length_cons, List.length_nil, reduceIte, Nat.reduceEqDiff, Nat.reduceAdd, Nat.reduceLeDiff, Nat.reduceLT, a_day, Nat.zero_ne_one, Nat.one_ne_zero, false_and, and_false, true_and, and_true, or_false, false_or, or_true, true_or, not_true_eq_false, not_false_eq_true, Nat.zero_add, Nat.add_zero, Nat.le_refl, Nat.lt_irrefl, Nat.zero_lt_succ, Nat.zero_le, forall_const, List.cons.injEq, Value.int.injEq, Value.ref.injEq, Value.long.injEq, and_assoc, exists_and_left, exists_eq_left']
    try simp only [forall_eq]
    have go43 : shA sh srt n0 = 1 → (0 ≤ sh ∧ sh ≤ 3) → BX6_sheet_43 g Q (T_X6_isSheet g) (T_X6_within g) E68 [(0, .ref 76), (1, .int sh), (2, .int srt), (3, .int n0)] [] M0 := by
      intro c c1
      obtain ⟨i, hi31, hie⟩ := nI_of (i_not_lt.mpr c1.1)
      have hi : i < 4 := by
        have := c1.2
        rw [hie] at this
        have := (nI_leI (b := 3) hi31 (by decide)).mp this
        omega
      unfold BX6_sheet_43
      simp only [i_const, i_lconst, i_iload, i_aload, i_lload, i_istore, i_astore, i_lstore, i_iinc, i_bin, i_div, i_un, i_i2l, i_l2i, i_lbin, i_lcmp, i_if, i_icmp, i_dup, i_dup_x1, i_dup2, i_pop, i_geti, i_getr, i_getd, i_puti, i_putz, i_putd, i_iald, i_bald, i_aald, i_iast, i_bast, i_alen, i_keep, i_ret, i_retz, i_reta, i_retl, i_retv, i_callv, i_callk, i_calls, i_mm, i_copy, i_under, i_undld, i_ldcs, i_sw, q_swc0, q_swc1, q_lg0, q_lg1, q_lent0, q_lent1, lset, lset2, q_lins0, q_lins1, q_ldel0, q_ldel1, q_ldel20, q_ldel21, q_lkeep0, q_lkeep1, q_memb0, q_memb1, cat2, Nat.reduceBEq, decide_true, decide_false, decide_eq_true_eq, cond_true, cond_false, Bool.and_true, Bool.and_false, Bool.true_and, Bool.false_and, f_iadd, f_isub, f_imul, f_ishl, f_ishr, f_iushr, f_iand, f_ior, f_idiv, f_irem, f_ineg, f_i2b, f_i2s, f_ladd, f_lmul, c_eq, c_ne, c_lt, c_ge, c_gt, c_le, cc_eq, cc_ne, cc_lt, cc_ge, cc_gt, cc_le, rfo, aof, csum, Value.category, List.take, List.drop, List.reverse, List.reverseAux, List.map, List.sum_cons, List.sum_nil, List.cons_append, List.nil_append, Option.toList, List.mem_cons, List.not_mem_nil, List.length_cons, List.length_nil, reduceIte, Nat.reduceEqDiff, Nat.reduceAdd, Nat.reduceLeDiff, Nat.reduceLT, a_day, Nat.zero_ne_one, Nat.one_ne_zero, false_and, and_false, true_and, and_true, or_false, false_or, or_true, true_or, not_true_eq_false, not_false_eq_true, Nat.zero_add, Nat.add_zero, Nat.le_refl, Nat.lt_irrefl, Nat.zero_lt_succ, Nat.zero_le, forall_const, List.cons.injEq, Value.int.injEq, Value.ref.injEq, Value.long.injEq, and_assoc, exists_and_left, exists_eq_left', forall_eq]
      rw [hie, nI_clamp hi31]
      refine ⟨m_76 hg, m_99 hg, vm l_99 hi (by decide), m_76 hg, fun y => ⟨m_100 hg, vm l_100 hi (by decide), iE68 (40 - 0) _ _ _ ?_⟩, fun y => ⟨m_100 hg, vm l_100 hi (by decide), iE68 (40 - 0) _ _ _ ?_⟩⟩ <;> rw [hI68]
      · exact ⟨0, i, hie, hi, by rw [hie]; rfl, rfl, by omega, rfl, c, (Sm.rf.set _ (Or.inl ⟨rfl, rfl⟩)).set _ (Or.inr (Or.inl ⟨rfl, rfl⟩)), by rw [ms_q (by decide), ms_s], by rw [ms_s, if_neg (i_not_lt.mpr y)], fun j hj => absurd hj (by omega)⟩
      · exact ⟨0, i, hie, hi, by rw [hie]; rfl, rfl, by omega, rfl, c, (Sm.rf.set _ (Or.inl ⟨rfl, rfl⟩)).set _ (Or.inr (Or.inl ⟨rfl, rfl⟩)), by rw [ms_q (by decide), ms_s], by rw [ms_s, if_pos (i_not_le.mp y)], fun j hj => absurd hj (by omega)⟩
    have bad : ∀ x : Int32, ¬ x = 1 → shA sh srt n0 = x → Q (some (.int x)) M0 := by
      intro x hx e
      rw [e] at hb
      exact hb hx
    subst hB4
    unfold BX6_sheet_4
    generalize hB13 : BX6_sheet_13 g Q (T_X6_isSheet g) (T_X6_within g) E68 = B13
    simp only [T_X6_isSheet, T_X6_within, i_const, i_lconst, i_iload, i_aload, i_lload, i_istore, i_astore, i_lstore, i_iinc, i_bin, i_div, i_un, i_i2l, i_l2i, i_lbin, i_lcmp, i_if, i_icmp, i_dup, i_dup_x1, i_dup2, i_pop, i_geti, i_getr, i_getd, i_puti, i_putz, i_putd, i_iald, i_bald, i_aald, i_iast, i_bast, i_alen, i_keep, i_ret, i_retz, i_reta, i_retl, i_retv, i_callv, i_callk, i_calls, i_mm, i_copy, i_under, i_undld, i_ldcs, i_sw, q_swc0, q_swc1, q_lg0, q_lg1, q_lent0, q_lent1, lset, lset2, q_lins0, q_lins1, q_ldel0, q_ldel1, q_ldel20, q_ldel21, q_lkeep0, q_lkeep1, q_memb0, q_memb1, cat2, Nat.reduceBEq, decide_true, decide_false, decide_eq_true_eq, cond_true, cond_false, Bool.and_true, Bool.and_false, Bool.true_and, Bool.false_and, f_iadd, f_isub, f_imul, f_ishl, f_ishr, f_iushr, f_iand, f_ior, f_idiv, f_irem, f_ineg, f_i2b, f_i2s, f_ladd, f_lmul, c_eq, c_ne, c_lt, c_ge, c_gt, c_le, cc_eq, cc_ne, cc_lt, cc_ge, cc_gt, cc_le, rfo, aof, csum, Value.category, List.take, List.drop, List.reverse, List.reverseAux, List.map, List.sum_cons, List.sum_nil, List.cons_append, List.nil_append, Option.toList, List.mem_cons, List.not_mem_nil, List.length_cons, List.length_nil, reduceIte, Nat.reduceEqDiff, Nat.reduceAdd, Nat.reduceLeDiff, Nat.reduceLT, a_day, Nat.zero_ne_one, Nat.one_ne_zero, false_and, and_false, true_and, and_true, or_false, false_or, or_true, true_or, not_true_eq_false, not_false_eq_true, Nat.zero_add, Nat.add_zero, Nat.le_refl, Nat.lt_irrefl, Nat.zero_lt_succ, Nat.zero_le, forall_const, List.cons.injEq, Value.int.injEq, Value.ref.injEq, Value.long.injEq, and_assoc, exists_and_left, exists_eq_left']
    try simp only [forall_eq]
    refine ⟨fun z1 => bad _ (by decide) ?_, fun z1 => ?_⟩
    · unfold shA; rw [if_pos (fun q => b2n z1 q.1)]
    subst hB13
    unfold BX6_sheet_13
    generalize hB30 : BX6_sheet_30 g Q (T_X6_isSheet g) (T_X6_within g) E68 = B30
    simp only [T_X6_isSheet, T_X6_within, i_const, i_lconst, i_iload, i_aload, i_lload, i_istore, i_astore, i_lstore, i_iinc, i_bin, i_div, i_un, i_i2l, i_l2i, i_lbin, i_lcmp, i_if, i_icmp, i_dup, i_dup_x1, i_dup2, i_pop, i_geti, i_getr, i_getd, i_puti, i_putz, i_putd, i_iald, i_bald, i_aald, i_iast, i_bast, i_alen, i_keep, i_ret, i_retz, i_reta, i_retl, i_retv, i_callv, i_callk, i_calls, i_mm, i_copy, i_under, i_undld, i_ldcs, i_sw, q_swc0, q_swc1, q_lg0, q_lg1, q_lent0, q_lent1, lset, lset2, q_lins0, q_lins1, q_ldel0, q_ldel1, q_ldel20, q_ldel21, q_lkeep0, q_lkeep1, q_memb0, q_memb1, cat2, Nat.reduceBEq, decide_true, decide_false, decide_eq_true_eq, cond_true, cond_false, Bool.and_true, Bool.and_false, Bool.true_and, Bool.false_and, f_iadd, f_isub, f_imul, f_ishl, f_ishr, f_iushr, f_iand, f_ior, f_idiv, f_irem, f_ineg, f_i2b, f_i2s, f_ladd, f_lmul, c_eq, c_ne, c_lt, c_ge, c_gt, c_le, cc_eq, cc_ne, cc_lt, cc_ge, cc_gt, cc_le, rfo, aof, csum, Value.category, List.take, List.drop, List.reverse, List.reverseAux, List.map, List.sum_cons, List.sum_nil, List.cons_append, List.nil_append, Option.toList, List.mem_cons, List.not_mem_nil, List.length_cons, List.length_nil, reduceIte, Nat.reduceEqDiff, Nat.reduceAdd, Nat.reduceLeDiff, Nat.reduceLT, a_day, Nat.zero_ne_one, Nat.one_ne_zero, false_and, and_false, true_and, and_true, or_false, false_or, or_true, true_or, not_true_eq_false, not_false_eq_true, Nat.zero_add, Nat.add_zero, Nat.le_refl, Nat.lt_irrefl, Nat.zero_lt_succ, Nat.zero_le, forall_const, List.cons.injEq, Value.int.injEq, Value.ref.injEq, Value.long.injEq, and_assoc, exists_and_left, exists_eq_left']
    try simp only [forall_eq]
    refine ⟨fun z2 => ?_, fun z2 => bad _ (by decide) ?_⟩
    · have c12 : (0 ≤ sh ∧ sh ≤ 3) ∧ (-1 ≤ srt ∧ srt ≤ 2) := ⟨b2t z1, b2t z2⟩
      have hs0 : shA sh srt n0 = if 0 ≤ srt ∧ n0 < 0 then -14 else if 0 ≤ srt ∧ 40 < n0 then -2 else 1 := by unfold shA; rw [if_neg (fun q => q c12)]
      have go30 : ¬ (0 ≤ srt ∧ n0 < 0) → BX6_sheet_30 g Q (T_X6_isSheet g) (T_X6_within g) E68 [(0, .ref 76), (1, .int sh), (2, .int srt), (3, .int n0)] [] M0 := by
        intro c
        rw [if_neg c] at hs0
        unfold BX6_sheet_30
        generalize hB43 : BX6_sheet_43 g Q (T_X6_isSheet g) (T_X6_within g) E68 = B43
        simp only [i_const, i_lconst, i_iload, i_aload, i_lload, i_istore, i_astore, i_lstore, i_iinc, i_bin, i_div, i_un, i_i2l, i_l2i, i_lbin, i_lcmp, i_if, i_icmp, i_dup, i_dup_x1, i_dup2, i_pop, i_geti, i_getr, i_getd, i_puti, i_putz, i_putd, i_iald, i_bald, i_aald, i_iast, i_bast, i_alen, i_keep, i_ret, i_retz, i_reta, i_retl, i_retv, i_callv, i_callk, i_calls, i_mm, i_copy, i_under, i_undld, i_ldcs, i_sw, q_swc0, q_swc1, q_lg0, q_lg1, q_lent0, q_lent1, lset, lset2, q_lins0, q_lins1, q_ldel0, q_ldel1, q_ldel20, q_ldel21, q_lkeep0, q_lkeep1, q_memb0, q_memb1, cat2, Nat.reduceBEq, decide_true, decide_false, decide_eq_true_eq, cond_true, cond_false, Bool.and_true, Bool.and_false, Bool.true_and, Bool.false_and, f_iadd, f_isub, f_imul, f_ishl, f_ishr, f_iushr, f_iand, f_ior, f_idiv, f_irem, f_ineg, f_i2b, f_i2s, f_ladd, f_lmul, c_eq, c_ne, c_lt, c_ge, c_gt, c_le, cc_eq, cc_ne, cc_lt, cc_ge, cc_gt, cc_le, rfo, aof, csum, Value.category, List.take, List.drop, List.reverse, List.reverseAux, List.map, List.sum_cons, List.sum_nil, List.cons_append, List.nil_append, Option.toList, List.mem_cons, List.not_mem_nil, List.length_cons, List.length_nil, reduceIte, Nat.reduceEqDiff, Nat.reduceAdd, Nat.reduceLeDiff, Nat.reduceLT, a_day, Nat.zero_ne_one, Nat.one_ne_zero, false_and, and_false, true_and, and_true, or_false, false_or, or_true, true_or, not_true_eq_false, not_false_eq_true, Nat.zero_add, Nat.add_zero, Nat.le_refl, Nat.lt_irrefl, Nat.zero_lt_succ, Nat.zero_le, forall_const, List.cons.injEq, Value.int.injEq, Value.ref.injEq, Value.long.injEq, and_assoc, exists_and_left, exists_eq_left', forall_eq]
        refine ⟨fun y => ?_, fun y => ⟨fun u => ?_, fun u => bad _ (by decide) ?_⟩⟩
        · subst_vars; exact go43 (by rw [hs0, if_neg (fun q => i_not_lt.mpr q.1 y)]) c12.1
        · subst_vars; exact go43 (by rw [hs0, if_neg (fun q => i_not_lt.mpr u q.2)]) c12.1
        · rw [hs0, if_pos ⟨i_not_lt.mp y, i_not_le.mp u⟩]
      refine ⟨fun y => ?_, fun y => ⟨fun u => ?_, fun u => bad _ (by decide) ?_⟩⟩
      · subst_vars; exact go30 (fun q => i_not_lt.mpr q.1 y)
      · subst_vars; exact go30 (fun q => i_not_lt.mpr u q.2)
      · rw [hs0, if_pos ⟨i_not_lt.mp y, i_not_le.mp u⟩]
    · unfold shA; rw [if_pos (fun q => b2n (Decidable.not_not.mp z2) q.2)]
def T_X6_film (g : WG) (as : List Value) (M : MM) (Q : Option Value → MM → Prop) : Prop := ∃ sh n, as = [.ref 76, .int sh, .int n] ∧ okM M ∧ zM M ∧ (¬ ((0 ≤ sh ∧ sh ≤ 3) ∧ (0 ≤ n ∧ n ≤ 40)) → Q (some (.int (-2))) M) ∧ (∀ i k M', sh = nI i → i < 4 → n = nI k → k ≤ 40 → Sm (fun a b => YS a b ∨ (a = 99 ∧ b = i) ∨ (a = 100 ∧ b = i) ∨ (a = 101 ∧ 40 * i ≤ b ∧ b < 40 * i + 40)) M M' → M' 99 i = 2 → M' 100 i = nI k → (∀ j, j < 40 → M' 101 (40 * i + j) = if j < k then wor (xm M) (pasN (xm M) (dm M) j) else 0) → Q (some (.int (nI k))) M')
set_option maxRecDepth 100000 in
set_option maxHeartbeats 2000000 in
theorem t_X6_film {l : Launch} {g : WG} (hg : Full g) : Ct l g yX6_film cX6_film 4 ((Option.some FieldType.int)) 8 (T_X6_film g) := by
  refine Ct.of (by decide) (fun as M Q h => ?_) (fun p e s m args below meth c as M Q h C => ?_)
  · obtain ⟨sh, n0, rfl, ho, hz, hb, h⟩ := h; exact ⟨by simp, by simp [Value.category]⟩
  · obtain ⟨sh, n0, rfl, ho, hz, hb, h⟩ := h
    have hn := ho.n
    obtain ⟨Tn, hwf, htx, h9⟩ := id ho
    obtain ⟨D, hDe⟩ : ∃ D, dm M = D := ⟨_, rfl⟩
    obtain ⟨X, hXe⟩ : ∃ X, xm M = X := ⟨_, rfl⟩
    rw [hDe] at hn hwf
    rw [hDe, hXe] at h
    have key : ∀ i M', i < 4 → Sm (fun a b => YR a b ∨ (a = 99 ∧ b = i) ∨ (a = 100 ∧ b = i) ∨ (a = 101 ∧ 40 * i ≤ b ∧ b < 40 * i + 40)) M M' → ∀ j, dm M' = pasN X D j → okM M' ∧ xm M' = X := by
      intro i M' hi hs j hd
      obtain ⟨a, b⟩ := okM.to hs hd (wfD_pasN hwf j) htx h9 (by unfold YR; omega) (fun a b _ _ => by unfold YR; omega)
      exact ⟨a, b.trans hXe⟩
    obtain ⟨I34, hI34⟩ : ∃ I : Nat → PP, I = (fun n lv st M' => ∃ k i nn, sh = nI i ∧ i < 4 ∧ n0 = nI nn ∧ nn ≤ 40 ∧ lv = [(0, .ref 76), (1, .int (nI i)), (2, .int (nI nn)), (3, .int (nI k))] ∧ st = [] ∧ k ≤ nn ∧ n = nn - k ∧ Sm (fun a b => YR a b ∨ (a = 99 ∧ b = i) ∨ (a = 100 ∧ b = i) ∨ (a = 101 ∧ 40 * i ≤ b ∧ b < 40 * i + 40)) M M' ∧ dm M' = pasN X D (k - 1) ∧ M' 76 32 = M 76 0 ∧ (∀ s, s < 7 → M' 93 s = M 82 s ∧ M' 94 s = M 83 s) ∧ M' 99 i = 2 ∧ M' 100 i = nI nn ∧ (∀ j, j < 40 → M' 101 (40 * i + j) = if j < k then wor X (pasN X D j) else 0)) := ⟨_, rfl⟩
    obtain ⟨E34, hE34⟩ : ∃ E : PP, E = (fun lv st M => ∃ n, I34 n lv st M) := ⟨_, rfl⟩
    have iE34 : ∀ n lv st M, I34 n lv st M → E34 lv st M := fun n lv st M h => by rw [hE34]; exact ⟨n, h⟩
    have L34 : Sj p l e 8 s m args below meth c 4 g (MQ below (cQc g Q) args s 0 0 (gA g)) 34 E34 := by
      rw [hE34]
      refine s_ex (s_loop I34 (fun K34 k34 => WX6_film_34 C (t_X6_isSheet hg) (by decide) (t_X6_within hg) (by decide) (t_X6_sheet hg) (by decide) (t_X6_keeps hg) (by decide) (t_X6_passes hg) (by decide) (t_X6_worth hg) (by decide) (t_X6_again hg) (by decide) k34) ?_)
      intro n lv st M1 K34 hK34 hI; rw [hI34] at hI; obtain ⟨k, i, nn, hie, hi, hne, hnn, rfl, rfl, hk, rfl, hs, hd, h32, hv, h99, h100, hc⟩ := hI
      unfold BX6_film_34
      generalize hB47 : BX6_film_47 g Q (T_X6_isSheet g) (T_X6_within g) (T_X6_sheet g) (T_X6_keeps g) (T_X6_passes g) (T_X6_worth g) (T_X6_again g) K34 = B47
      generalize hB48 : BX6_film_48 g Q (T_X6_isSheet g) (T_X6_within g) (T_X6_sheet g) (T_X6_keeps g) (T_X6_passes g) (T_X6_worth g) (T_X6_again g) K34 = B48
      generalize hB69 : BX6_film_69 g Q (T_X6_isSheet g) (T_X6_within g) (T_X6_sheet g) (T_X6_keeps g) (T_X6_passes g) (T_X6_worth g) (T_X6_again g) K34 = B69
      simp only [T_X6_isSheet, T_X6_within, T_X6_sheet, T_X6_keeps, T_X6_passes, T_X6_worth, T_X6_again, i_const, i_lconst, i_iload, i_aload, i_lload, i_istore, i_astore, i_lstore, i_iinc, i_bin, i_div, i_un, i_i2l, i_l2i, i_lbin, i_lcmp, i_if, i_icmp, i_dup, i_dup_x1, i_dup2, i_pop, i_geti, i_getr, i_getd, i_puti, i_putz, i_putd, i_iald, i_bald, i_aald, i_iast, i_bast, i_alen, i_keep, i_ret, i_retz, i_reta, i_retl, i_retv, i_callv, i_callk, i_calls, i_mm, i_copy, i_under, i_undld, i_ldcs, i_sw, q_swc0, q_swc1, q_lg0, q_lg1, q_lent0, q_lent1, lset, lset2, q_lins0, q_lins1, q_ldel0, q_ldel1, q_ldel20, q_ldel21, q_lkeep0, q_lkeep1, q_memb0, q_memb1, cat2, Nat.reduceBEq, decide_true, decide_false, decide_eq_true_eq, cond_true, cond_false, Bool.and_true, Bool.and_false, Bool.true_and, Bool.false_and, f_iadd, f_isub, f_imul, f_ishl, f_ishr, f_iushr, f_iand, f_ior, f_idiv, f_irem, f_ineg, f_i2b, f_i2s, f_ladd, f_lmul, c_eq, c_ne, c_lt, c_ge, c_gt, c_le, cc_eq, cc_ne, cc_lt, cc_ge, cc_gt, cc_le, rfo, aof, csum, Value.category, List.take, List.drop, List.reverse, List.reverseAux, List.map, List.sum_cons, List.sum_nil, List.cons_append, List.nil_append, Option.toList, List.mem_cons, List.not_mem_nil, List.length_cons, List.length_nil, reduceIte, Nat.reduceEqDiff, Nat.reduceAdd, Nat.reduceLeDiff, Nat.reduceLT, a_day, Nat.zero_ne_one, Nat.one_ne_zero, false_and, and_false, true_and, and_true, or_false, false_or, or_true, true_or, not_true_eq_false, not_false_eq_true, Nat.zero_add, Nat.add_zero, Nat.le_refl, Nat.lt_irrefl, Nat.zero_lt_succ, Nat.zero_le, forall_const, List.cons.injEq, Value.int.injEq, Value.ref.injEq, Value.long.injEq, and_assoc, exists_and_left, exists_eq_left']
      try simp only [forall_eq]
      obtain ⟨ko, kx⟩ := key i M1 hi hs _ hd
      rw [nI_leI (by omega) (by omega)]
      refine ⟨fun z => ?_, fun z => ?_⟩
      · have : k = nn := by omega
        subst this
        subst hB69
        unfold BX6_film_69
        simp only [T_X6_isSheet, T_X6_within, T_X6_sheet, T_X6_keeps, T_X6_passes, T_X6_worth, T_X6_again, i_const, i_lconst, i_iload, i_aload, i_lload, i_istore, i_astore, i_lstore, i_iinc, i_bin, i_div, i_un, i_i2l, i_l2i, i_lbin, i_lcmp, i_if, i_icmp, i_dup, i_dup_x1, i_dup2, i_pop, i_geti, i_getr, i_getd, i_puti, i_putz, i_putd, i_iald, i_bald, i_aald, i_iast, i_bast, i_alen, i_keep, i_ret, i_retz, i_reta, i_retl, i_retv, i_callv, i_callk, i_calls, i_mm, i_copy, i_under, i_undld, i_ldcs, i_sw, q_swc0, q_swc1, q_lg0, q_lg1, q_lent0, q_lent1, lset, lset2, q_lins0, q_lins1, q_ldel0, q_ldel1, q_ldel20, q_ldel21, q_lkeep0, q_lkeep1, q_memb0, q_memb1, cat2, Nat.reduceBEq, decide_true, decide_false, decide_eq_true_eq, cond_true, cond_false, Bool.and_true, Bool.and_false, Bool.true_and, Bool.false_and, f_iadd, f_isub, f_imul, f_ishl, f_ishr, f_iushr, f_iand, f_ior, f_idiv, f_irem, f_ineg, f_i2b, f_i2s, f_ladd, f_lmul, c_eq, c_ne, c_lt, c_ge, c_gt, c_le, cc_eq, cc_ne, cc_lt, cc_ge, cc_gt, cc_le, rfo, aof, csum, Value.category, List.take, List.drop, List.reverse, List.reverseAux, List.map, List.sum_cons, List.sum_nil, List.cons_append, List.nil_append, Option.toList, List.mem_cons, List.not_mem_nil, List.length_cons, List.length_nil, reduceIte, Nat.reduceEqDiff, Nat.reduceAdd, Nat.reduceLeDiff, Nat.reduceLT, a_day, Nat.zero_ne_one, Nat.one_ne_zero, false_and, and_false, true_and, and_true, or_false, false_or, or_true, true_or, not_true_eq_false, not_false_eq_true, Nat.zero_add, Nat.add_zero, Nat.le_refl, Nat.lt_irrefl, Nat.zero_lt_succ, Nat.zero_le, forall_const, List.cons.injEq, Value.int.injEq, Value.ref.injEq, Value.long.injEq, and_assoc, exists_and_left, exists_eq_left']
        try simp only [forall_eq]
        refine ⟨(m_76 hg).1, (m_76 hg).2.1, fun s h1 => by rw [(hv s h1).2]; exact hz s h1, fun M3 hs3 e0 hw => ?_⟩
        have f3 : ∀ a b, ¬ YA a b → M3 a b = M1 a b := fun a b q => hs3 a b q
        refine h i k M3 hie hi hne hnn ?_ ?_ ?_ fun j hj => ?_
        · intro a b hy
          by_cases h82 : a = 82 ∧ b < 7
          · obtain ⟨rfl, hb⟩ := h82
            rw [(hw b hb).1, (hv b hb).1]
          · by_cases h83 : a = 83 ∧ b < 7
            · obtain ⟨rfl, hb⟩ := h83
              rw [(hw b hb).2, (hv b hb).2]
            · by_cases h0 : a = 76 ∧ b = 0
              · obtain ⟨rfl, rfl⟩ := h0
                rw [e0, h32]
              · rw [hs3 a b (by unfold YA; unfold YS at hy; omega), hs a b (by unfold YR; unfold YS at hy; omega)]
        · rw [f3 _ _ (by unfold YA; omega)]; exact h99
        · rw [f3 _ _ (by unfold YA; omega)]; exact h100
        · rw [f3 _ _ (by unfold YA; omega)]; exact hc j hj
      · have hlt : k < nn := by omega
        have go : ∀ M2, Sm (fun a b => YR a b ∨ (a = 99 ∧ b = i) ∨ (a = 100 ∧ b = i) ∨ (a = 101 ∧ 40 * i ≤ b ∧ b < 40 * i + 40)) M M2 → dm M2 = pasN X D k → M2 76 32 = M 76 0 → (∀ s, s < 7 → M2 93 s = M 82 s ∧ M2 94 s = M 83 s) → M2 99 i = 2 → M2 100 i = nI nn → (∀ j, j < 40 → M2 101 (40 * i + j) = if j < k then wor X (pasN X D j) else 0) → BX6_film_48 g Q (T_X6_isSheet g) (T_X6_within g) (T_X6_sheet g) (T_X6_keeps g) (T_X6_passes g) (T_X6_worth g) (T_X6_again g) K34 [(0, .ref 76), (1, .int (nI i)), (2, .int (nI nn)), (3, .int (nI k))] [] M2 := by
          intro M2 hs2 hd2 h32 hv h99 h100 hc
          obtain ⟨ko, kx⟩ := key i M2 hi hs2 _ hd2
          unfold BX6_film_48
          generalize hB62 : BX6_film_62 g Q (T_X6_isSheet g) (T_X6_within g) (T_X6_sheet g) (T_X6_keeps g) (T_X6_passes g) (T_X6_worth g) (T_X6_again g) K34 = B62
          simp only [T_X6_worth, i_const, i_lconst, i_iload, i_aload, i_lload, i_istore, i_astore, i_lstore, i_iinc, i_bin, i_div, i_un, i_i2l, i_l2i, i_lbin, i_lcmp, i_if, i_icmp, i_dup, i_dup_x1, i_dup2, i_pop, i_geti, i_getr, i_getd, i_puti, i_putz, i_putd, i_iald, i_bald, i_aald, i_iast, i_bast, i_alen, i_keep, i_ret, i_retz, i_reta, i_retl, i_retv, i_callv, i_callk, i_calls, i_mm, i_copy, i_under, i_undld, i_ldcs, i_sw, q_swc0, q_swc1, q_lg0, q_lg1, q_lent0, q_lent1, lset, lset2, q_lins0, q_lins1, q_ldel0, q_ldel1, q_ldel20, q_ldel21, q_lkeep0, q_lkeep1, q_memb0, q_memb1, cat2, Nat.reduceBEq, decide_true, decide_false, decide_eq_true_eq, cond_true, cond_false, Bool.and_true, Bool.and_false, Bool.true_and, Bool.false_and, f_iadd, f_isub, f_imul, f_ishl, f_ishr, f_iushr, f_iand, f_ior, f_idiv, f_irem, f_ineg, f_i2b, f_i2s, f_ladd, f_lmul, c_eq, c_ne, c_lt, c_ge, c_gt, c_le, cc_eq, cc_ne, cc_lt, cc_ge, cc_gt, cc_le, rfo, aof, csum, Value.category, List.take, List.drop, List.reverse, List.reverseAux, List.map, List.sum_cons, List.sum_nil, List.cons_append, List.nil_append, Option.toList, List.mem_cons, List.not_mem_nil, List.length_cons, List.length_nil, reduceIte, Nat.reduceEqDiff, Nat.reduceAdd, Nat.reduceLeDiff, Nat.reduceLT, a_day, Nat.zero_ne_one, Nat.one_ne_zero, false_and, and_false, true_and, and_true, or_false, false_or, or_true, true_or, not_true_eq_false, not_false_eq_true, Nat.zero_add, Nat.add_zero, Nat.le_refl, Nat.lt_irrefl, Nat.zero_lt_succ, Nat.zero_le, forall_const, List.cons.injEq, Value.int.injEq, Value.ref.injEq, Value.long.injEq, and_assoc, exists_and_left, exists_eq_left', forall_eq]
          refine ⟨m_76 hg, (m_76 hg).1, (m_76 hg).2.1, ko, fun M3 hs3 hl3 => ?_⟩
          rw [hd2, kx]
          obtain ⟨-, kd3, -⟩ := keepM hs3 YL88 ko
          have f2 : ∀ a b, ¬ YL a b → M3 a b = M2 a b := fun a b q => hs3 a b q
          subst hB62
          unfold BX6_film_62
          simp only [T_X6_isSheet, T_X6_within, T_X6_sheet, T_X6_keeps, T_X6_passes, T_X6_worth, T_X6_again, i_const, i_lconst, i_iload, i_aload, i_lload, i_istore, i_astore, i_lstore, i_iinc, i_bin, i_div, i_un, i_i2l, i_l2i, i_lbin, i_lcmp, i_if, i_icmp, i_dup, i_dup_x1, i_dup2, i_pop, i_geti, i_getr, i_getd, i_puti, i_putz, i_putd, i_iald, i_bald, i_aald, i_iast, i_bast, i_alen, i_keep, i_ret, i_retz, i_reta, i_retl, i_retv, i_callv, i_callk, i_calls, i_mm, i_copy, i_under, i_undld, i_ldcs, i_sw, q_swc0, q_swc1, q_lg0, q_lg1, q_lent0, q_lent1, lset, lset2, q_lins0, q_lins1, q_ldel0, q_ldel1, q_ldel20, q_ldel21, q_lkeep0, q_lkeep1, q_memb0, q_memb1, cat2, Nat.reduceBEq, decide_true, decide_false, decide_eq_true_eq, cond_true, cond_false, Bool.and_true, Bool.and_false, Bool.true_and, Bool.false_and, f_iadd, f_isub, f_imul, f_ishl, f_ishr, f_iushr, f_iand, f_ior, f_idiv, f_irem, f_ineg, f_i2b, f_i2s, f_ladd, f_lmul, c_eq, c_ne, c_lt, c_ge, c_gt, c_le, cc_eq, cc_ne, cc_lt, cc_ge, cc_gt, cc_le, rfo, aof, csum, Value.category, List.take, List.drop, List.reverse, List.reverseAux, List.map, List.sum_cons, List.sum_nil, List.cons_append, List.nil_append, Option.toList, List.mem_cons, List.not_mem_nil, List.length_cons, List.length_nil, reduceIte, Nat.reduceEqDiff, Nat.reduceAdd, Nat.reduceLeDiff, Nat.reduceLT, a_day, Nat.zero_ne_one, Nat.one_ne_zero, false_and, and_false, true_and, and_true, or_false, false_or, or_true, true_or, not_true_eq_false, not_false_eq_true, Nat.zero_add, Nat.add_zero, Nat.le_refl, Nat.lt_irrefl, Nat.zero_lt_succ, Nat.zero_le, forall_const, List.cons.injEq, Value.int.injEq, Value.ref.injEq, Value.long.injEq, and_assoc, exists_and_left, exists_eq_left']
          try simp only [forall_eq]
          rw [show (40 : Int32) = nI 40 from rfl, pk_mul, nI_add, nI_clamp (by omega), nI_1]
          refine ⟨m_101 hg, vm l_101 (by omega) (by decide), hK34 (nn - (k + 1)) _ _ _ (by omega) ?_⟩
          rw [hI34]
          refine ⟨k + 1, i, nn, hie, hi, hne, hnn, rfl, rfl, by omega, rfl, (hs2.tr (hs3.mono fun a b q => Or.inl (by unfold YL at q; unfold YR; omega))).set _ (by omega), ?_, ?_, fun s h1 => ?_, ?_, ?_, fun j hj => ?_⟩
          · show dm _ = pasN X D k
            rw [← hd2, ← kd3]
            exact dm_sm (Y := fun a _ => a = 101) (Sm.rf.set _ rfl) (fun j => by omega) (fun j hj => by omega) (fun f s _ _ _ => by omega) (by rw [kd3]; exact ko.n)
          · rw [ms_q (by decide), f2 _ _ (by unfold YL; omega)]; exact h32
          · rw [ms_q (by decide), ms_q (by decide), f2 _ _ (by unfold YL; omega), f2 _ _ (by unfold YL; omega)]; exact hv s h1
          · rw [ms_q (by decide), f2 _ _ (by unfold YL; omega)]; exact h99
          · rw [ms_q (by decide), f2 _ _ (by unfold YL; omega)]; exact h100
          · by_cases e : j = k
            · subst e; rw [ms_s, if_pos (by omega)]
            · rw [ms_j (by omega), f2 _ _ (by unfold YL; omega), hc j hj]
              have : j < k + 1 ↔ j < k := by omega
              simp only [this]
        refine ⟨fun u => ?_, fun u => ⟨(m_76 hg).1, (m_76 hg).2.1, ko, fun M2 hs2 hd2 => ?_⟩⟩
        · have hk0 : k = 0 := by
            rcases Nat.eq_zero_or_pos k with q | q
            · exact q
            · exact absurd u (nI_nle q (by omega))
          subst_vars; exact go M1 hs hd h32 hv h99 h100 hc
        · have hk0 : 0 < k := by
            rcases Nat.eq_zero_or_pos k with q | q
            · subst q; exact absurd (by decide) u
            · exact q
          have hs2 : Sm YW M1 M2 := hs2.mono YWn_W
          have f2 : ∀ a b, ¬ YW a b → M2 a b = M1 a b := fun a b q => hs2 a b q
          have hd3 : dm M2 = pasN X D k := by
            rw [hd2, kx, hd]
            show pasN X D (k - 1 + 1) = _
            rw [show k - 1 + 1 = k by omega]
          have hg2 := go M2 (hs.tr (hs2.mono fun a b q => Or.inl (by unfold YW at q; unfold YR; omega))) hd3 (by rw [f2 _ _ (by unfold YW; omega)]; exact h32) (fun s h1 => by rw [f2 _ _ (by unfold YW; omega), f2 _ _ (by unfold YW; omega)]; exact hv s h1) (by rw [f2 _ _ (by unfold YW; omega)]; exact h99) (by rw [f2 _ _ (by unfold YW; omega)]; exact h100) (fun j hj => by rw [f2 _ _ (by unfold YW; omega)]; exact hc j hj)
          subst hB47
          unfold BX6_film_47
          simp only [i_const, i_lconst, i_iload, i_aload, i_lload, i_istore, i_astore, i_lstore, i_iinc, i_bin, i_div, i_un, i_i2l, i_l2i, i_lbin, i_lcmp, i_if, i_icmp, i_dup, i_dup_x1, i_dup2, i_pop, i_geti, i_getr, i_getd, i_puti, i_putz, i_putd, i_iald, i_bald, i_aald, i_iast, i_bast, i_alen, i_keep, i_ret, i_retz, i_reta, i_retl, i_retv, i_callv, i_callk, i_calls, i_mm, i_copy, i_under, i_undld, i_ldcs, i_sw, q_swc0, q_swc1, q_lg0, q_lg1, q_lent0, q_lent1, lset, lset2, q_lins0, q_lins1, q_ldel0, q_ldel1, q_ldel20, q_ldel21, q_lkeep0, q_lkeep1, q_memb0, q_memb1, cat2, Nat.reduceBEq, decide_true, decide_false, decide_eq_true_eq, cond_true, cond_false, Bool.and_true, Bool.and_false, Bool.true_and, Bool.false_and, f_iadd, f_isub, f_imul, f_ishl, f_ishr, f_iushr, f_iand, f_ior, f_idiv, f_irem, f_ineg, f_i2b, f_i2s, f_ladd, f_lmul, c_eq, c_ne, c_lt, c_ge, c_gt, c_le, cc_eq, cc_ne, cc_lt, cc_ge, cc_gt, cc_le, rfo, aof, csum, Value.category, List.take, List.drop, List.reverse, List.reverseAux, List.map, List.sum_cons, List.sum_nil, List.cons_append, List.nil_append, Option.toList, List.mem_cons, List.not_mem_nil, List.length_cons, List.length_nil, reduceIte, Nat.reduceEqDiff, Nat.reduceAdd, Nat.reduceLeDiff, Nat.reduceLT, a_day, Nat.zero_ne_one, Nat.one_ne_zero, false_and, and_false, true_and, and_true, or_false, false_or, or_true, true_or, not_true_eq_false, not_false_eq_true, Nat.zero_add, Nat.add_zero, Nat.le_refl, Nat.lt_irrefl, Nat.zero_lt_succ, Nat.zero_le, forall_const, List.cons.injEq, Value.int.injEq, Value.ref.injEq, Value.long.injEq, and_assoc, exists_and_left, exists_eq_left']
          subst_vars
          exact hg2
      
    refine s_of (fun lv st M0 hs => ?_) (WX6_film_0 C (t_X6_isSheet hg) (by decide) (t_X6_within hg) (by decide) (t_X6_sheet hg) (by decide) (t_X6_keeps hg) (by decide) (t_X6_passes hg) (by decide) (t_X6_worth hg) (by decide) (t_X6_again hg) (by decide) L34)
    obtain ⟨rfl, rfl, rfl⟩ := hs
    unfold BX6_film_0
    generalize hB4 : BX6_film_4 g Q (T_X6_isSheet g) (T_X6_within g) (T_X6_sheet g) (T_X6_keeps g) (T_X6_passes g) (T_X6_worth g) (T_X6_again g) E34 = B4
    simp only [T_X6_isSheet, T_X6_within, T_X6_sheet, T_X6_keeps, T_X6_passes, T_X6_worth, T_X6_again, i_const, i_lconst, i_iload, i_aload, i_lload, i_istore, i_astore, i_lstore, i_iinc, i_bin, i_div, i_un, i_i2l, i_l2i, i_lbin, i_lcmp, i_if, i_icmp, i_dup, i_dup_x1, i_dup2, i_pop, i_geti, i_getr, i_getd, i_puti, i_putz, i_putd, i_iald, i_bald, i_aald, i_iast, i_bast, i_alen, i_keep, i_ret, i_retz, i_reta, i_retl, i_retv, i_callv, i_callk, i_calls, i_mm, i_copy, i_under, i_undld, i_ldcs, i_sw, q_swc0, q_swc1, q_lg0, q_lg1, q_lent0, q_lent1, lset, lset2, q_lins0, q_lins1, q_ldel0, q_ldel1, q_ldel20, q_ldel21, q_lkeep0, q_lkeep1, q_memb0, q_memb1, cat2, Nat.reduceBEq, decide_true, decide_false, decide_eq_true_eq, cond_true, cond_false, Bool.and_true, Bool.and_false, Bool.true_and, Bool.false_and, f_iadd, f_isub, f_imul, f_ishl, f_ishr, f_iushr, f_iand, f_ior, f_idiv, f_irem, f_ineg, f_i2b, f_i2s, f_ladd, f_lmul, c_eq, c_ne, c_lt, c_ge, c_gt, c_le, cc_eq, cc_ne, cc_lt, cc_ge, cc_gt, cc_le, rfo, aof, csum, Value.category, List.take, List.drop, List.reverse, List.reverseAux, List.map, List.sum_cons, List.sum_nil, List.cons_append, List.nil_append, Option.toList, List.mem_cons, List.not_mem_nil, List.length_cons, List.length_nil, reduceIte, Nat.reduceEqDiff, Nat.reduceAdd, Nat.reduceLeDiff, Nat.reduceLT, a_day, Nat.zero_ne_one, Nat.one_ne_zero, false_and, and_false, true_and, and_true, or_false, false_or, or_true, true_or, not_true_eq_false, not_false_eq_true, Nat.zero_add, Nat.add_zero, Nat.le_refl, Nat.lt_irrefl, Nat.zero_lt_succ, Nat.zero_le, forall_const, List.cons.injEq, Value.int.injEq, Value.ref.injEq, Value.long.injEq, and_assoc, exists_and_left, exists_eq_left']
    try simp only [forall_eq]
    subst hB4
    unfold BX6_film_4
    generalize hB14 : BX6_film_14 g Q (T_X6_isSheet g) (T_X6_within g) (T_X6_sheet g) (T_X6_keeps g) (T_X6_passes g) (T_X6_worth g) (T_X6_again g) E34 = B14
    simp only [T_X6_isSheet, T_X6_within, T_X6_sheet, T_X6_keeps, T_X6_passes, T_X6_worth, T_X6_again, i_const, i_lconst, i_iload, i_aload, i_lload, i_istore, i_astore, i_lstore, i_iinc, i_bin, i_div, i_un, i_i2l, i_l2i, i_lbin, i_lcmp, i_if, i_icmp, i_dup, i_dup_x1, i_dup2, i_pop, i_geti, i_getr, i_getd, i_puti, i_putz, i_putd, i_iald, i_bald, i_aald, i_iast, i_bast, i_alen, i_keep, i_ret, i_retz, i_reta, i_retl, i_retv, i_callv, i_callk, i_calls, i_mm, i_copy, i_under, i_undld, i_ldcs, i_sw, q_swc0, q_swc1, q_lg0, q_lg1, q_lent0, q_lent1, lset, lset2, q_lins0, q_lins1, q_ldel0, q_ldel1, q_ldel20, q_ldel21, q_lkeep0, q_lkeep1, q_memb0, q_memb1, cat2, Nat.reduceBEq, decide_true, decide_false, decide_eq_true_eq, cond_true, cond_false, Bool.and_true, Bool.and_false, Bool.true_and, Bool.false_and, f_iadd, f_isub, f_imul, f_ishl, f_ishr, f_iushr, f_iand, f_ior, f_idiv, f_irem, f_ineg, f_i2b, f_i2s, f_ladd, f_lmul, c_eq, c_ne, c_lt, c_ge, c_gt, c_le, cc_eq, cc_ne, cc_lt, cc_ge, cc_gt, cc_le, rfo, aof, csum, Value.category, List.take, List.drop, List.reverse, List.reverseAux, List.map, List.sum_cons, List.sum_nil, List.cons_append, List.nil_append, Option.toList, List.mem_cons, List.not_mem_nil, List.length_cons, List.length_nil, reduceIte, Nat.reduceEqDiff, Nat.reduceAdd, Nat.reduceLeDiff, Nat.reduceLT, a_day, Nat.zero_ne_one, Nat.one_ne_zero, false_and, and_false, true_and, and_true, or_false, false_or, or_true, true_or, not_true_eq_false, not_false_eq_true, Nat.zero_add, Nat.add_zero, Nat.le_refl, Nat.lt_irrefl, Nat.zero_lt_succ, Nat.zero_le, forall_const, List.cons.injEq, Value.int.injEq, Value.ref.injEq, Value.long.injEq, and_assoc, exists_and_left, exists_eq_left']
    try simp only [forall_eq]
    refine ⟨fun z1 => hb (fun q => b2n z1 q.1), fun z1 => ?_⟩
    subst hB14
    unfold BX6_film_14
    generalize hB27 : BX6_film_27 g Q (T_X6_isSheet g) (T_X6_within g) (T_X6_sheet g) (T_X6_keeps g) (T_X6_passes g) (T_X6_worth g) (T_X6_again g) E34 = B27
    simp only [T_X6_isSheet, T_X6_within, T_X6_sheet, T_X6_keeps, T_X6_passes, T_X6_worth, T_X6_again, i_const, i_lconst, i_iload, i_aload, i_lload, i_istore, i_astore, i_lstore, i_iinc, i_bin, i_div, i_un, i_i2l, i_l2i, i_lbin, i_lcmp, i_if, i_icmp, i_dup, i_dup_x1, i_dup2, i_pop, i_geti, i_getr, i_getd, i_puti, i_putz, i_putd, i_iald, i_bald, i_aald, i_iast, i_bast, i_alen, i_keep, i_ret, i_retz, i_reta, i_retl, i_retv, i_callv, i_callk, i_calls, i_mm, i_copy, i_under, i_undld, i_ldcs, i_sw, q_swc0, q_swc1, q_lg0, q_lg1, q_lent0, q_lent1, lset, lset2, q_lins0, q_lins1, q_ldel0, q_ldel1, q_ldel20, q_ldel21, q_lkeep0, q_lkeep1, q_memb0, q_memb1, cat2, Nat.reduceBEq, decide_true, decide_false, decide_eq_true_eq, cond_true, cond_false, Bool.and_true, Bool.and_false, Bool.true_and, Bool.false_and, f_iadd, f_isub, f_imul, f_ishl, f_ishr, f_iushr, f_iand, f_ior, f_idiv, f_irem, f_ineg, f_i2b, f_i2s, f_ladd, f_lmul, c_eq, c_ne, c_lt, c_ge, c_gt, c_le, cc_eq, cc_ne, cc_lt, cc_ge, cc_gt, cc_le, rfo, aof, csum, Value.category, List.take, List.drop, List.reverse, List.reverseAux, List.map, List.sum_cons, List.sum_nil, List.cons_append, List.nil_append, Option.toList, List.mem_cons, List.not_mem_nil, List.length_cons, List.length_nil, reduceIte, Nat.reduceEqDiff, Nat.reduceAdd, Nat.reduceLeDiff, Nat.reduceLT, a_day, Nat.zero_ne_one, Nat.one_ne_zero, false_and, and_false, true_and, and_true, or_false, false_or, or_true, true_or, not_true_eq_false, not_false_eq_true, Nat.zero_add, Nat.add_zero, Nat.le_refl, Nat.lt_irrefl, Nat.zero_lt_succ, Nat.zero_le, forall_const, List.cons.injEq, Value.int.injEq, Value.ref.injEq, Value.long.injEq, and_assoc, exists_and_left, exists_eq_left']
    try simp only [forall_eq]
    refine ⟨fun z2 => ?_, fun z2 => hb (fun q => b2n (Decidable.not_not.mp z2) q.2)⟩
    obtain ⟨c1a, c1b⟩ := b2t z1
    obtain ⟨c2a, c2b⟩ := b2t z2
    have hsa : shA sh 2 n0 = 1 := by
      unfold shA
      rw [if_neg (fun q => q ⟨⟨c1a, c1b⟩, by decide, by decide⟩), if_neg (fun q => i_not_lt.mpr c2a q.2), if_neg (fun q => i_not_lt.mpr c2b q.2)]
    refine ⟨(m_76 hg).1, (m_76 hg).2.1, fun q => absurd hsa q, fun _ i M1 hie hi hs1 h99 h100 hz1 => ?_⟩
    rw [if_neg (by decide : ¬ (2 : Int32) < 0)] at h100
    obtain ⟨nn, hn31, hne⟩ := nI_of (i_not_lt.mpr c2a)
    have hnn : nn ≤ 40 := by
      rw [hne] at c2b
      exact (nI_leI (b := 40) hn31 (by decide)).mp c2b
    have hz83 : ∀ s, s < 7 → M1 83 s = 0 ∨ M1 83 s = 1 := fun s hs => by rw [hs1 83 s (by omega)]; exact hz s hs
    subst hB27
    unfold BX6_film_27
    simp only [T_X6_isSheet, T_X6_within, T_X6_sheet, T_X6_keeps, T_X6_passes, T_X6_worth, T_X6_again, i_const, i_lconst, i_iload, i_aload, i_lload, i_istore, i_astore, i_lstore, i_iinc, i_bin, i_div, i_un, i_i2l, i_l2i, i_lbin, i_lcmp, i_if, i_icmp, i_dup, i_dup_x1, i_dup2, i_pop, i_geti, i_getr, i_getd, i_puti, i_putz, i_putd, i_iald, i_bald, i_aald, i_iast, i_bast, i_alen, i_keep, i_ret, i_retz, i_reta, i_retl, i_retv, i_callv, i_callk, i_calls, i_mm, i_copy, i_under, i_undld, i_ldcs, i_sw, q_swc0, q_swc1, q_lg0, q_lg1, q_lent0, q_lent1, lset, lset2, q_lins0, q_lins1, q_ldel0, q_ldel1, q_ldel20, q_ldel21, q_lkeep0, q_lkeep1, q_memb0, q_memb1, cat2, Nat.reduceBEq, decide_true, decide_false, decide_eq_true_eq, cond_true, cond_false, Bool.and_true, Bool.and_false, Bool.true_and, Bool.false_and, f_iadd, f_isub, f_imul, f_ishl, f_ishr, f_iushr, f_iand, f_ior, f_idiv, f_irem, f_ineg, f_i2b, f_i2s, f_ladd, f_lmul, c_eq, c_ne, c_lt, c_ge, c_gt, c_le, cc_eq, cc_ne, cc_lt, cc_ge, cc_gt, cc_le, rfo, aof, csum, Value.category, List.take, List.drop, List.reverse, List.reverseAux, List.map, List.sum_cons, List.sum_nil, List.cons_append, List.nil_append, Option.toList, List.mem_cons, List.not_mem_nil, List.length_cons, List.length_nil, reduceIte, Nat.reduceEqDiff, Nat.reduceAdd, Nat.reduceLeDiff, Nat.reduceLT, a_day, Nat.zero_ne_one, Nat.one_ne_zero, false_and, and_false, true_and, and_true, or_false, false_or, or_true, true_or, not_true_eq_false, not_false_eq_true, Nat.zero_add, Nat.add_zero, Nat.le_refl, Nat.lt_irrefl, Nat.zero_lt_succ, Nat.zero_le, forall_const, List.cons.injEq, Value.int.injEq, Value.ref.injEq, Value.long.injEq, and_assoc, exists_and_left, exists_eq_left']
    try simp only [forall_eq]
    refine ⟨(m_76 hg).1, (m_76 hg).2.1, hz83, fun M2 hs2 h32 hv => ?_⟩
    have f2 : ∀ a b, ¬ YK a b → M2 a b = M1 a b := fun a b q => hs2 a b q
    refine iE34 (nn - 0) _ _ _ ?_
    rw [hI34]
    refine ⟨0, i, nn, hie, hi, hne, hnn, by rw [hie, hne]; rfl, rfl, by omega, rfl, (hs1.mono fun a b q => Or.inr q).tr (hs2.mono fun a b q => Or.inl (by unfold YK at q; unfold YR; omega)), ?_, ?_, fun s hs => ?_, ?_, ?_, fun j hj => ?_⟩
    · show dm M2 = D
      rw [← hDe]
      exact dm_sm ((hs1.mono (Y := fun a b => YK a b ∨ (99 ≤ a)) fun a b q => Or.inr (by omega)).tr (hs2.mono fun a b q => Or.inl q)) (fun j => by unfold YK; omega) (fun j hj => by unfold YK; omega) (fun f s _ _ _ => by unfold YK; omega) (by rw [hDe]; exact hn)
    · rw [h32, hs1 _ _ (by omega)]
    · rw [(hv s hs).1, (hv s hs).2, hs1 _ _ (by omega), hs1 _ _ (by omega)]; exact ⟨rfl, rfl⟩
    · rw [f2 _ _ (by unfold YK; omega)]; exact h99
    · rw [f2 _ _ (by unfold YK; omega), h100, hne]
    · rw [f2 _ _ (by unfold YK; omega), if_neg (by omega)]; exact hz1 j hj
