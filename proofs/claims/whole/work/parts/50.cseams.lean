/-! ===== the class: seams by a sheet ===== -/
def T_X5_seams (g : WG) (as : List Value) (M : MM) (Q : Option Value → MM → Prop) : Prop := ∃ sh so fr n, as = [.ref 0, .int sh, .int so, .int fr, .int n] ∧ okD M 40 ∧ dn (dv M 40) ≤ 6 ∧ (∀ a, a < 4 → ∃ n, n ≤ 40 ∧ M (32 + 2 * a) 2 = nI n) ∧ (∀ a, a < 4 → M (32 + 2 * a) 1 = -1 ∨ 0 ≤ M (32 + 2 * a) 1) ∧ (¬ smC (fun a => M (32 + 2 * a) 1) sh so n = 0 → Q (some (.int (smC (fun a => M (32 + 2 * a) 1) sh so n))) M) ∧ (smC (fun a => M (32 + 2 * a) 1) sh so n = 0 → ∀ a n' M', sh = nI a → a < 4 → n = nI n' → n' ≤ 6 → Sm (XD 40) M M' → dv M' 40 = (smA (M (33 + 2 * a)) (M (32 + 2 * a) 2).toNatClampNeg n' fr (dv M 40)).2 → Q (some (.int (smA (M (33 + 2 * a)) (M (32 + 2 * a) 2).toNatClampNeg n' fr (dv M 40)).1)) M')
set_option maxRecDepth 100000 in
set_option maxHeartbeats 4000000 in
theorem t_X5_seams {l : Launch} {g : WG} (hg : Full g) : Ct l g yX5_seams cX5_seams 9 ((Option.some FieldType.int)) 4 (T_X5_seams g) := by
  refine Ct.of (by decide) (fun as M Q h => ?_) (fun p e s m args below meth c as M Q h C => ?_)
  · obtain ⟨sh, so, fr, n0, rfl, ho, hn6, hsz, hso, hb, h⟩ := h; exact ⟨by simp, by simp [Value.category]⟩
  · obtain ⟨sh, so, fr, n0, rfl, ho, hn6, hsz, hso, hb, h⟩ := h
    obtain ⟨-, Tn, hwf, htx⟩ := id ho
    obtain ⟨srt, hsrt⟩ : ∃ srt, (fun a => M (32 + 2 * a) 1) = srt := ⟨_, rfl⟩
    obtain ⟨D, hDe⟩ : ∃ D, dv M 40 = D := ⟨_, rfl⟩
    rw [hsrt] at hb h
    rw [hDe] at hn6 hwf h
    have toG : ∀ {M' : MM}, Sm (XD 40) M M' → ∀ t, t < 6 → txOK M (8 + 4 * t) → txOK M' (8 + 4 * t) := fun hs t ht => (xc_D hs D40 ht).2
    obtain ⟨I70, hI70⟩ : ∃ I : Nat → PP, I = (fun n lv st M' => ∃ a n' k came siz at' D1, sh = nI a ∧ a < 4 ∧ n0 = nI n' ∧ n' ≤ 6 ∧ smC srt sh so (nI n') = 0 ∧ M (32 + 2 * a) 2 = nI siz ∧ siz ≤ 40 ∧ lv = [(0, .ref 0), (4, .int (nI n')), (5, .ref (32 + 2 * a)), (6, .int (nI came)), (7, .int at'), (8, .int (nI k))] ∧ st = [] ∧ k ≤ n' ∧ came ≤ k ∧ n = n' - k ∧ Sm (XD 40) M M' ∧ dv M' 40 = D1 ∧ wfD D1 Tn ∧ dn D1 ≤ 6 ∧ ((fr < 0 ∧ at' = fr ∧ k = 0 ∧ came = 0 ∧ D1 = D) ∨ ∃ f, f < 2 ^ 31 ∧ fr = nI f ∧ at' = nI (f + 3 * k) ∧ (k = 0 ∨ f + 3 * k ≤ siz) ∧ smN (M (33 + 2 * a)) siz (n' - k) (f + 3 * k) came D1 = smA (M (33 + 2 * a)) siz n' fr D)) := ⟨_, rfl⟩
    obtain ⟨E70, hE70⟩ : ∃ E : PP, E = (fun lv st M => ∃ n, I70 n lv st M) := ⟨_, rfl⟩
    have iE70 : ∀ n lv st M, I70 n lv st M → E70 lv st M := fun n lv st M h => by rw [hE70]; exact ⟨n, h⟩
    have L70 : Sj p l e 4 s m args below meth c 9 g (MQ below (cQc g Q) args s 0 0 (gA g)) 70 E70 := by
      rw [hE70]
      refine s_ex (s_loop I70 (fun K70 k70 => WX5_seams_70 C (t_X5_isSheet hg) (by decide) (t_X5_isSort hg) (by decide) (t_X2_hasFrom hg) (by decide) (t_X5_seam hg) (by decide) k70) ?_)
      intro n lv st M1 K70 hK70 hI; rw [hI70] at hI; obtain ⟨a, n', k, came, siz, at', D1, ea, ha, en, hn', hc, es, hsiz, rfl, rfl, hk, hck, rfl, hs, hd, hwf1, hn1, hor⟩ := hI
      unfold BX5_seams_70
      generalize hB85 : BX5_seams_85 g Q (T_X5_isSheet g) (T_X5_isSort g) (T_X2_hasFrom g) (T_X5_seam g) K70 = B85
      simp only [T_X5_isSheet, T_X5_isSort, T_X2_hasFrom, T_X5_seam, i_const, i_lconst, i_iload, i_aload, i_lload, i_istore, i_astore, i_lstore, i_iinc, i_bin, i_div, i_un, i_i2l, i_l2i, i_lbin, i_lcmp, i_if, i_icmp, i_dup, i_dup_x1, i_dup2, i_pop, i_geti, i_getr, i_getd, i_puti, i_putz, i_putd, i_iald, i_bald, i_aald, i_iast, i_bast, i_alen, i_keep, i_ret, i_retz, i_reta, i_retl, i_retv, i_callv, i_callk, i_calls, i_mm, i_copy, i_under, i_undld, i_ldcs, i_sw, q_swc0, q_swc1, q_lg0, q_lg1, q_lent0, q_lent1, lset, lset2, q_lins0, q_lins1, q_ldel0, q_ldel1, q_ldel20, q_ldel21, q_lkeep0, q_lkeep1, q_memb0, q_memb1, cat2, Nat.reduceBEq, decide_true, decide_false, decide_eq_true_eq, cond_true, cond_false, Bool.and_true, Bool.and_false, Bool.true_and, Bool.false_and, f_iadd, f_isub, f_imul, f_ishl, f_ishr, f_iushr, f_iand, f_ior, f_idiv, f_irem, f_ineg, f_i2b, f_i2s, f_ladd, f_lmul, c_eq, c_ne, c_lt, c_ge, c_gt, c_le, cc_eq, cc_ne, cc_lt, cc_ge, cc_gt, cc_le, rfo, aof, csum, Value.category, List.take, List.drop, List.reverse, List.reverseAux, List.map, List.sum_cons, List.sum_nil, List.cons_append, List.nil_append, Option.toList, List.mem_cons, List.not_mem_nil, List.length_cons, List.length_nil, reduceIte, Nat.reduceEqDiff, Nat.reduceAdd, Nat.reduceLeDiff, Nat.reduceLT, a_day, Nat.zero_ne_one, Nat.one_ne_zero, false_and, and_false, true_and, and_true, or_false, false_or, or_true, true_or, not_true_eq_false, not_false_eq_true, Nat.zero_add, Nat.add_zero, Nat.le_refl, Nat.lt_irrefl, Nat.zero_lt_succ, Nat.zero_le, forall_const, List.cons.injEq, Value.int.injEq, Value.ref.injEq, Value.long.injEq, and_assoc, exists_and_left, exists_eq_left']
      try simp only [forall_eq]
      rw [← en] at hc
      obtain ⟨s1, s2, s3⟩ := sheet_ok hg ha
      have hT := hwf1.2.2.2.2
      have fin0 : ∀ p : Int32 × DV, smA (M (33 + 2 * a)) siz n' fr D = p → D1 = p.2 → Q (some (.int p.1)) M1 := by
        intro q e1 e2
        have := h hc a n' M1 ea ha en hn' hs
        rw [es, nI_clamp (by omega), e1] at this
        exact this (hd.trans e2)
      have far : ∀ a' b, 32 ≤ a' → a' < 40 → M1 a' b = M a' b := fun a' b p q => hs a' b (by unfold XD isPile; omega)
      rw [nI_leI (by omega) (by omega)]
      refine ⟨fun z => ?_, fun z => ⟨s1.1, s1.2.1, a, rfl, ha, siz, (far _ _ (by omega) (by omega)).trans es, hsiz, ?_⟩⟩
      · have e : k = n' := by omega
        subst e
        rcases hor with ⟨w1, -, w2, w3, w4⟩ | ⟨f, hf, ef, -, -, e⟩
        · refine fin0 (nI came, D1) ?_ rfl
          unfold smA
          rw [if_pos w2, w3, w4]; rfl
        · rw [Nat.sub_self] at e
          exact fin0 (nI came, D1) e.symm rfl
      · subst hB85
        unfold BX5_seams_85
        generalize hB123 : BX5_seams_123 g Q (T_X5_isSheet g) (T_X5_isSort g) (T_X2_hasFrom g) (T_X5_seam g) K70 = B123
        simp only [T_X5_isSheet, T_X5_isSort, T_X2_hasFrom, T_X5_seam, i_const, i_lconst, i_iload, i_aload, i_lload, i_istore, i_astore, i_lstore, i_iinc, i_bin, i_div, i_un, i_i2l, i_l2i, i_lbin, i_lcmp, i_if, i_icmp, i_dup, i_dup_x1, i_dup2, i_pop, i_geti, i_getr, i_getd, i_puti, i_putz, i_putd, i_iald, i_bald, i_aald, i_iast, i_bast, i_alen, i_keep, i_ret, i_retz, i_reta, i_retl, i_retv, i_callv, i_callk, i_calls, i_mm, i_copy, i_under, i_undld, i_ldcs, i_sw, q_swc0, q_swc1, q_lg0, q_lg1, q_lent0, q_lent1, lset, lset2, q_lins0, q_lins1, q_ldel0, q_ldel1, q_ldel20, q_ldel21, q_lkeep0, q_lkeep1, q_memb0, q_memb1, cat2, Nat.reduceBEq, decide_true, decide_false, decide_eq_true_eq, cond_true, cond_false, Bool.and_true, Bool.and_false, Bool.true_and, Bool.false_and, f_iadd, f_isub, f_imul, f_ishl, f_ishr, f_iushr, f_iand, f_ior, f_idiv, f_irem, f_ineg, f_i2b, f_i2s, f_ladd, f_lmul, c_eq, c_ne, c_lt, c_ge, c_gt, c_le, cc_eq, cc_ne, cc_lt, cc_ge, cc_gt, cc_le, rfo, aof, csum, Value.category, List.take, List.drop, List.reverse, List.reverseAux, List.map, List.sum_cons, List.sum_nil, List.cons_append, List.nil_append, Option.toList, List.mem_cons, List.not_mem_nil, List.length_cons, List.length_nil, reduceIte, Nat.reduceEqDiff, Nat.reduceAdd, Nat.reduceLeDiff, Nat.reduceLT, a_day, Nat.zero_ne_one, Nat.one_ne_zero, false_and, and_false, true_and, and_true, or_false, false_or, or_true, true_or, not_true_eq_false, not_false_eq_true, Nat.zero_add, Nat.add_zero, Nat.le_refl, Nat.lt_irrefl, Nat.zero_lt_succ, Nat.zero_le, forall_const, List.cons.injEq, Value.int.injEq, Value.ref.injEq, Value.long.injEq, and_assoc, exists_and_left, exists_eq_left']
        try simp only [forall_eq]
        rcases hor with ⟨w1, w0, w2, w3, w4⟩ | ⟨f, hf, ef, eat, hor2, e⟩
        · have hneg : b2i (0 ≤ at' ∧ (0 : Int32) ≤ 3 ∧ at'.toNatClampNeg + Int32.toNatClampNeg 3 ≤ siz) = 0 := b2i_f (fun q => i_not_lt.mpr q.1 (by rw [w0]; exact w1))
          refine ⟨fun q => absurd hneg q, fun _ => fin0 (-12, D1) ?_ rfl⟩
          unfold smA
          rw [if_neg (by omega), if_pos w1, w4]
        · have hlt : f + 3 * k < 2 ^ 31 := by omega
          have e3 : (3 : Int32).toNatClampNeg = 3 := rfl
          have est : smN (M (33 + 2 * a)) siz (n' - k) (f + 3 * k) came D1 = if f + 3 * k + 2 < siz then smN (M (33 + 2 * a)) siz (n' - (k + 1)) (f + 3 * k + 3) (if smB D1 (M (33 + 2 * a) (f + 3 * k)) (M (33 + 2 * a) (f + 3 * k + 1)) (M (33 + 2 * a) (f + 3 * k + 2)) then came + 1 else came) (smE D1 (M (33 + 2 * a) (f + 3 * k)) (M (33 + 2 * a) (f + 3 * k + 1)) (M (33 + 2 * a) (f + 3 * k + 2))) else (-12, D1) := by
            rw [show n' - k = (n' - (k + 1)) + 1 by omega]; rfl
          rw [e] at est
          rw [eat, nI_clamp hlt, e3]
          refine ⟨fun y => ?_, fun y => ?_⟩
          · have y' := (b2t y).2.2
            rw [if_pos (by omega)] at est
            have e33 : (32 + 2 * a + 1 : Nat) = 33 + 2 * a := by omega
            simp only [e33, s3]
            rw [show (2 : Int32) = nI 2 from rfl, nI_1, nI_add, nI_clamp (by omega), nI_clamp (by omega), far _ _ (by omega) (by omega), far _ _ (by omega) (by omega), far _ _ (by omega) (by omega)]
            generalize M (33 + 2 * a) (f + 3 * k) = x0 at *
            generalize M (33 + 2 * a) (f + 3 * k + 1) = x1 at *
            generalize M (33 + 2 * a) (f + 3 * k + 2) = x2 at *
            have hko : okD M1 40 := ⟨D40, Tn, by rw [hd]; exact hwf1, fun t ht => toG hs t (by omega) (htx t ht)⟩
            obtain ⟨wf2, dn2⟩ := wfD_sm (k := x0) (n := x1) (e := x2) hwf1 hn1
            have fin : ∀ M2 c2, Sm (XD 40) M M2 → dv M2 40 = smE D1 x0 x1 x2 → c2 = (if smB D1 x0 x1 x2 then came + 1 else came) → K70 [(0, .ref 0), (4, .int (nI n')), (5, .ref (32 + 2 * a)), (6, .int (nI c2)), (7, .int (nI (f + 3 * (k + 1)))), (8, .int (nI (k + 1)))] [] M2 := by
              intro M2 c2 hs2 hd2 hc2
              refine hK70 (n' - (k + 1)) _ _ _ (by omega) ?_
              rw [hI70]
              refine ⟨a, n', k + 1, c2, siz, _, _, ea, ha, en, hn', by rw [← en]; exact hc, es, hsiz, rfl, rfl, by omega, ?_, rfl, hs2, hd2, wf2, dn2, Or.inr ⟨f, hf, ef, rfl, Or.inr (by omega), ?_⟩⟩
              · rw [hc2]; split <;> omega
              · rw [hc2, show f + 3 * (k + 1) = f + 3 * k + 3 by omega, est]
            have no : ¬ (seamOK x0 x1 x2 ∧ dn D1 < 6) → smB D1 x0 x1 x2 = false := fun q => by
              cases hB : smB D1 x0 x1 x2 with
              | false => rfl
              | true => exact absurd (smB_iff.mp hB) q
            have ea3 : nI (f + 3 * k) + 3 = nI (f + 3 * (k + 1)) := by rw [show (3 : Int32) = nI 3 from rfl, nI_add]; congr 1
            refine ⟨s1, s2, vp_in_nI (by omega) (by decide), s1, s2, vp_in_nI (by omega) (by decide), s1, s2, vp_in_nI (by omega) (by decide), (c_0 hg).1, (c_0 hg).2.1, hko, by rw [hd]; exact hn1, fun q => ?_, fun q1 q2 => ?_, fun q1 q2 M2 hs2 hd2 => ?_⟩
            · subst hB123
              unfold BX5_seams_123
              simp only [T_X5_isSheet, T_X5_isSort, T_X2_hasFrom, T_X5_seam, i_const, i_lconst, i_iload, i_aload, i_lload, i_istore, i_astore, i_lstore, i_iinc, i_bin, i_div, i_un, i_i2l, i_l2i, i_lbin, i_lcmp, i_if, i_icmp, i_dup, i_dup_x1, i_dup2, i_pop, i_geti, i_getr, i_getd, i_puti, i_putz, i_putd, i_iald, i_bald, i_aald, i_iast, i_bast, i_alen, i_keep, i_ret, i_retz, i_reta, i_retl, i_retv, i_callv, i_callk, i_calls, i_mm, i_copy, i_under, i_undld, i_ldcs, i_sw, q_swc0, q_swc1, q_lg0, q_lg1, q_lent0, q_lent1, lset, lset2, q_lins0, q_lins1, q_ldel0, q_ldel1, q_ldel20, q_ldel21, q_lkeep0, q_lkeep1, q_memb0, q_memb1, cat2, Nat.reduceBEq, decide_true, decide_false, decide_eq_true_eq, cond_true, cond_false, Bool.and_true, Bool.and_false, Bool.true_and, Bool.false_and, f_iadd, f_isub, f_imul, f_ishl, f_ishr, f_iushr, f_iand, f_ior, f_idiv, f_irem, f_ineg, f_i2b, f_i2s, f_ladd, f_lmul, c_eq, c_ne, c_lt, c_ge, c_gt, c_le, cc_eq, cc_ne, cc_lt, cc_ge, cc_gt, cc_le, rfo, aof, csum, Value.category, List.take, List.drop, List.reverse, List.reverseAux, List.map, List.sum_cons, List.sum_nil, List.cons_append, List.nil_append, Option.toList, List.mem_cons, List.not_mem_nil, List.length_cons, List.length_nil, reduceIte, Nat.reduceEqDiff, Nat.reduceAdd, Nat.reduceLeDiff, Nat.reduceLT, a_day, Nat.zero_ne_one, Nat.one_ne_zero, false_and, and_false, true_and, and_true, or_false, false_or, or_true, true_or, not_true_eq_false, not_false_eq_true, Nat.zero_add, Nat.add_zero, Nat.le_refl, Nat.lt_irrefl, Nat.zero_lt_succ, Nat.zero_le, forall_const, List.cons.injEq, Value.int.injEq, Value.ref.injEq, Value.long.injEq, and_assoc, exists_and_left, exists_eq_left']
              try simp only [forall_eq]
              have hB := no (fun r => q r.1)
              rw [nI_1, ea3]
              exact ⟨fun _ => fin M1 came hs (by rw [hd]; unfold smE; rw [hB]; rfl) (by rw [hB]; rfl), fun r => absurd (by decide) r⟩
            · subst hB123
              unfold BX5_seams_123
              simp only [T_X5_isSheet, T_X5_isSort, T_X2_hasFrom, T_X5_seam, i_const, i_lconst, i_iload, i_aload, i_lload, i_istore, i_astore, i_lstore, i_iinc, i_bin, i_div, i_un, i_i2l, i_l2i, i_lbin, i_lcmp, i_if, i_icmp, i_dup, i_dup_x1, i_dup2, i_pop, i_geti, i_getr, i_getd, i_puti, i_putz, i_putd, i_iald, i_bald, i_aald, i_iast, i_bast, i_alen, i_keep, i_ret, i_retz, i_reta, i_retl, i_retv, i_callv, i_callk, i_calls, i_mm, i_copy, i_under, i_undld, i_ldcs, i_sw, q_swc0, q_swc1, q_lg0, q_lg1, q_lent0, q_lent1, lset, lset2, q_lins0, q_lins1, q_ldel0, q_ldel1, q_ldel20, q_ldel21, q_lkeep0, q_lkeep1, q_memb0, q_memb1, cat2, Nat.reduceBEq, decide_true, decide_false, decide_eq_true_eq, cond_true, cond_false, Bool.and_true, Bool.and_false, Bool.true_and, Bool.false_and, f_iadd, f_isub, f_imul, f_ishl, f_ishr, f_iushr, f_iand, f_ior, f_idiv, f_irem, f_ineg, f_i2b, f_i2s, f_ladd, f_lmul, c_eq, c_ne, c_lt, c_ge, c_gt, c_le, cc_eq, cc_ne, cc_lt, cc_ge, cc_gt, cc_le, rfo, aof, csum, Value.category, List.take, List.drop, List.reverse, List.reverseAux, List.map, List.sum_cons, List.sum_nil, List.cons_append, List.nil_append, Option.toList, List.mem_cons, List.not_mem_nil, List.length_cons, List.length_nil, reduceIte, Nat.reduceEqDiff, Nat.reduceAdd, Nat.reduceLeDiff, Nat.reduceLT, a_day, Nat.zero_ne_one, Nat.one_ne_zero, false_and, and_false, true_and, and_true, or_false, false_or, or_true, true_or, not_true_eq_false, not_false_eq_true, Nat.zero_add, Nat.add_zero, Nat.le_refl, Nat.lt_irrefl, Nat.zero_lt_succ, Nat.zero_le, forall_const, List.cons.injEq, Value.int.injEq, Value.ref.injEq, Value.long.injEq, and_assoc, exists_and_left, exists_eq_left']
              try simp only [forall_eq]
              rw [hd] at q2
              have hB := no (fun r => by omega)
              rw [nI_1, ea3]
              exact ⟨fun _ => fin M1 came hs (by rw [hd]; unfold smE; rw [hB]; rfl) (by rw [hB]; rfl), fun r => absurd (by decide) r⟩
            · subst hB123
              unfold BX5_seams_123
              simp only [T_X5_isSheet, T_X5_isSort, T_X2_hasFrom, T_X5_seam, i_const, i_lconst, i_iload, i_aload, i_lload, i_istore, i_astore, i_lstore, i_iinc, i_bin, i_div, i_un, i_i2l, i_l2i, i_lbin, i_lcmp, i_if, i_icmp, i_dup, i_dup_x1, i_dup2, i_pop, i_geti, i_getr, i_getd, i_puti, i_putz, i_putd, i_iald, i_bald, i_aald, i_iast, i_bast, i_alen, i_keep, i_ret, i_retz, i_reta, i_retl, i_retv, i_callv, i_callk, i_calls, i_mm, i_copy, i_under, i_undld, i_ldcs, i_sw, q_swc0, q_swc1, q_lg0, q_lg1, q_lent0, q_lent1, lset, lset2, q_lins0, q_lins1, q_ldel0, q_ldel1, q_ldel20, q_ldel21, q_lkeep0, q_lkeep1, q_memb0, q_memb1, cat2, Nat.reduceBEq, decide_true, decide_false, decide_eq_true_eq, cond_true, cond_false, Bool.and_true, Bool.and_false, Bool.true_and, Bool.false_and, f_iadd, f_isub, f_imul, f_ishl, f_ishr, f_iushr, f_iand, f_ior, f_idiv, f_irem, f_ineg, f_i2b, f_i2s, f_ladd, f_lmul, c_eq, c_ne, c_lt, c_ge, c_gt, c_le, cc_eq, cc_ne, cc_lt, cc_ge, cc_gt, cc_le, rfo, aof, csum, Value.category, List.take, List.drop, List.reverse, List.reverseAux, List.map, List.sum_cons, List.sum_nil, List.cons_append, List.nil_append, Option.toList, List.mem_cons, List.not_mem_nil, List.length_cons, List.length_nil, reduceIte, Nat.reduceEqDiff, Nat.reduceAdd, Nat.reduceLeDiff, Nat.reduceLT, a_day, Nat.zero_ne_one, Nat.one_ne_zero, false_and, and_false, true_and, and_true, or_false, false_or, or_true, true_or, not_true_eq_false, not_false_eq_true, Nat.zero_add, Nat.add_zero, Nat.le_refl, Nat.lt_irrefl, Nat.zero_lt_succ, Nat.zero_le, forall_const, List.cons.injEq, Value.int.injEq, Value.ref.injEq, Value.long.injEq, and_assoc, exists_and_left, exists_eq_left']
              try simp only [forall_eq]
              rw [hd] at q2 hd2
              have hB : smB D1 x0 x1 x2 = true := smB_iff.mpr ⟨q1, q2⟩
              rw [nI_1, nI_1, ea3]
              exact ⟨fun r => absurd r (nI_pos (by rw [hd]; omega)), fun _ => fin M2 (came + 1) (hs.tr hs2) (by rw [hd2]; unfold smE; rw [hB]; rfl) (by rw [hB]; rfl)⟩
          · have y' : ¬ f + 3 * k + 3 ≤ siz := fun q => b2n (Decidable.not_not.mp y) ⟨nI_pos' hlt, by decide, q⟩
            rw [if_neg (by omega)] at est
            exact fin0 (-12, D1) est rfl
      
    refine s_of (fun lv st M0 hs => ?_) (WX5_seams_0 C (t_X5_isSheet hg) (by decide) (t_X5_isSort hg) (by decide) (t_X2_hasFrom hg) (by decide) (t_X5_seam hg) (by decide) L70)
    obtain ⟨rfl, rfl, rfl⟩ := hs
    unfold BX5_seams_0
    generalize hB4 : BX5_seams_4 g Q (T_X5_isSheet g) (T_X5_isSort g) (T_X2_hasFrom g) (T_X5_seam g) E70 = B4
    simp only [T_X5_isSheet, T_X5_isSort, T_X2_hasFrom, T_X5_seam, i_const, i_lconst, i_iload, i_aload, i_lload, i_istore, i_astore, i_lstore, i_iinc, i_bin, i_div, i_un, i_i2l, i_l2i, i_lbin, i_lcmp, i_if, i_icmp, i_dup, i_dup_x1, i_dup2, i_pop, i_geti, i_getr, i_getd, i_puti, i_putz, i_putd, i_iald, i_bald, i_aald, i_iast, i_bast, i_alen, i_keep, i_ret, i_retz, i_reta, i_retl, i_retv, i_callv, i_callk, i_calls, i_mm, i_copy, i_under, i_undld, i_ldcs, i_sw, q_swc0, q_swc1, q_lg0, q_lg1, q_lent0, q_lent1, lset, lset2, q_lins0, q_lins1, q_ldel0, q_ldel1, q_ldel20, q_ldel21, q_lkeep0, q_lkeep1, q_memb0, q_memb1, cat2, Nat.reduceBEq, decide_true, decide_false, decide_eq_true_eq, cond_true, cond_false, Bool.and_true, Bool.and_false, Bool.true_and, Bool.false_and, f_iadd, f_isub, f_imul, f_ishl, f_ishr, f_iushr, f_iand, f_ior, f_idiv, f_irem, f_ineg, f_i2b, f_i2s, f_ladd, f_lmul, c_eq, c_ne, c_lt, c_ge, c_gt, c_le, cc_eq, cc_ne, cc_lt, cc_ge, cc_gt, cc_le, rfo, aof, csum, Value.category, List.take, List.drop, List.reverse, List.reverseAux, List.map, List.sum_cons, List.sum_nil, List.cons_append, List.nil_append, Option.toList, List.mem_cons, List.not_mem_nil, List.length_cons, List.length_nil, reduceIte, Nat.reduceEqDiff, Nat.reduceAdd, Nat.reduceLeDiff, Nat.reduceLT, a_day, Nat.zero_ne_one, Nat.one_ne_zero, false_and, and_false, true_and, and_true, or_false, false_or, or_true, true_or, not_true_eq_false, not_false_eq_true, Nat.zero_add, Nat.add_zero, Nat.le_refl, Nat.lt_irrefl, Nat.zero_lt_succ, Nat.zero_le, forall_const, List.cons.injEq, Value.int.injEq, Value.ref.injEq, Value.long.injEq, and_assoc, exists_and_left, exists_eq_left']
    try simp only [forall_eq]
    have bad : ∀ x : Int32, ¬ x = 0 → smC srt sh so n0 = x → Q (some (.int x)) M0 := by
      intro x hx e
      rw [e] at hb
      exact hb hx
    subst hB4
    unfold BX5_seams_4
    generalize hB11 : BX5_seams_11 g Q (T_X5_isSheet g) (T_X5_isSort g) (T_X2_hasFrom g) (T_X5_seam g) E70 = B11
    simp only [T_X5_isSheet, T_X5_isSort, T_X2_hasFrom, T_X5_seam, i_const, i_lconst, i_iload, i_aload, i_lload, i_istore, i_astore, i_lstore, i_iinc, i_bin, i_div, i_un, i_i2l, i_l2i, i_lbin, i_lcmp, i_if, i_icmp, i_dup, i_dup_x1, i_dup2, i_pop, i_geti, i_getr, i_getd, i_puti, i_putz, i_putd, i_iald, i_bald, i_aald, i_iast, i_bast, i_alen, i_keep, i_ret, i_retz, i_reta, i_retl, i_retv, i_callv, i_callk, i_calls, i_mm, i_copy, i_under, i_undld, i_ldcs, i_sw, q_swc0, q_swc1, q_lg0, q_lg1, q_lent0, q_lent1, lset, lset2, q_lins0, q_lins1, q_ldel0, q_ldel1, q_ldel20, q_ldel21, q_lkeep0, q_lkeep1, q_memb0, q_memb1, cat2, Nat.reduceBEq, decide_true, decide_false, decide_eq_true_eq, cond_true, cond_false, Bool.and_true, Bool.and_false, Bool.true_and, Bool.false_and, f_iadd, f_isub, f_imul, f_ishl, f_ishr, f_iushr, f_iand, f_ior, f_idiv, f_irem, f_ineg, f_i2b, f_i2s, f_ladd, f_lmul, c_eq, c_ne, c_lt, c_ge, c_gt, c_le, cc_eq, cc_ne, cc_lt, cc_ge, cc_gt, cc_le, rfo, aof, csum, Value.category, List.take, List.drop, List.reverse, List.reverseAux, List.map, List.sum_cons, List.sum_nil, List.cons_append, List.nil_append, Option.toList, List.mem_cons, List.not_mem_nil, List.length_cons, List.length_nil, reduceIte, Nat.reduceEqDiff, Nat.reduceAdd, Nat.reduceLeDiff, Nat.reduceLT, a_day, Nat.zero_ne_one, Nat.one_ne_zero, false_and, and_false, true_and, and_true, or_false, false_or, or_true, true_or, not_true_eq_false, not_false_eq_true, Nat.zero_add, Nat.add_zero, Nat.le_refl, Nat.lt_irrefl, Nat.zero_lt_succ, Nat.zero_le, forall_const, List.cons.injEq, Value.int.injEq, Value.ref.injEq, Value.long.injEq, and_assoc, exists_and_left, exists_eq_left']
    try simp only [forall_eq]
    refine ⟨fun z1 => bad _ (by decide) (by unfold smC; rw [if_pos (fun q => b2n z1 q.1.1)]), fun z1 => ?_⟩
    subst hB11
    unfold BX5_seams_11
    simp only [T_X5_isSheet, T_X5_isSort, T_X2_hasFrom, T_X5_seam, i_const, i_lconst, i_iload, i_aload, i_lload, i_istore, i_astore, i_lstore, i_iinc, i_bin, i_div, i_un, i_i2l, i_l2i, i_lbin, i_lcmp, i_if, i_icmp, i_dup, i_dup_x1, i_dup2, i_pop, i_geti, i_getr, i_getd, i_puti, i_putz, i_putd, i_iald, i_bald, i_aald, i_iast, i_bast, i_alen, i_keep, i_ret, i_retz, i_reta, i_retl, i_retv, i_callv, i_callk, i_calls, i_mm, i_copy, i_under, i_undld, i_ldcs, i_sw, q_swc0, q_swc1, q_lg0, q_lg1, q_lent0, q_lent1, lset, lset2, q_lins0, q_lins1, q_ldel0, q_ldel1, q_ldel20, q_ldel21, q_lkeep0, q_lkeep1, q_memb0, q_memb1, cat2, Nat.reduceBEq, decide_true, decide_false, decide_eq_true_eq, cond_true, cond_false, Bool.and_true, Bool.and_false, Bool.true_and, Bool.false_and, f_iadd, f_isub, f_imul, f_ishl, f_ishr, f_iushr, f_iand, f_ior, f_idiv, f_irem, f_ineg, f_i2b, f_i2s, f_ladd, f_lmul, c_eq, c_ne, c_lt, c_ge, c_gt, c_le, cc_eq, cc_ne, cc_lt, cc_ge, cc_gt, cc_le, rfo, aof, csum, Value.category, List.take, List.drop, List.reverse, List.reverseAux, List.map, List.sum_cons, List.sum_nil, List.cons_append, List.nil_append, Option.toList, List.mem_cons, List.not_mem_nil, List.length_cons, List.length_nil, reduceIte, Nat.reduceEqDiff, Nat.reduceAdd, Nat.reduceLeDiff, Nat.reduceLT, a_day, Nat.zero_ne_one, Nat.one_ne_zero, false_and, and_false, true_and, and_true, or_false, false_or, or_true, true_or, not_true_eq_false, not_false_eq_true, Nat.zero_add, Nat.add_zero, Nat.le_refl, Nat.lt_irrefl, Nat.zero_lt_succ, Nat.zero_le, forall_const, List.cons.injEq, Value.int.injEq, Value.ref.injEq, Value.long.injEq, and_assoc, exists_and_left, exists_eq_left']
    try simp only [forall_eq]
    refine ⟨fun z2 => bad _ (by decide) (by unfold smC; rw [if_pos (fun q => b2n z2 q.1.2)]), fun z2 => ⟨fun z3 => bad _ (by decide) (by unfold smC; rw [if_pos (fun q => i_not_lt.mpr q.2.1 z3)]), fun z3 => ⟨fun z4 => ?_, fun z4 => bad _ (by decide) (by unfold smC; rw [if_pos (fun q => z4 q.2.2)])⟩⟩⟩
    have c1 := b2t z1
    have c2 := b2t z2
    have c3 : 0 ≤ n0 ∧ n0 ≤ 6 := ⟨i_not_lt.mp z3, z4⟩
    obtain ⟨a, ha, ea⟩ := sh_4 c1
    obtain ⟨siz, hsiz, es⟩ := hsz a ha
    obtain ⟨s1, s2, s3⟩ := sheet_ok hg ha
    obtain ⟨n', hn31, en⟩ := nI_of (i_not_lt.mpr c3.1)
    have hn' : n' ≤ 6 := by
      have := c3.2
      rw [en] at this
      exact (nI_leI (b := 6) hn31 (by decide)).mp this
    have xa : M0 (32 + 2 * a) 1 = srt a := by rw [← hsrt]
    have ma := mis_lt (hso a ha)
    rw [xa] at ma
    have hc : smC srt sh so n0 = if srt a < 0 then -11 else if ¬ srt a = so then -13 else 0 := by
      unfold smC; rw [if_neg (fun q => q ⟨⟨c1, c2⟩, c3⟩), ea, nI_clamp (by omega)]
    rw [ea, nI_clamp (by omega)]
    have e32 : (2 + (30 + 2 * a) : Nat) = 32 + 2 * a := by omega
    simp only [e32]
    rw [xa]
    refine ⟨c_0 hg, okR hg (by decide) (by decide) rfl, vp_in_nI (n := a) (N := 4) ha (by decide), s1, fun y => ⟨s1, fun u => iE70 (n' - 0) _ _ _ ?_, fun u => bad _ (by decide) (by rw [hc, if_neg (i_not_lt.mpr (ma.mp y)), if_pos u])⟩, fun y => bad _ (by decide) (by rw [hc, if_pos (by rw [Decidable.not_not.mp y]; decide)])⟩
    rw [if_neg (i_not_lt.mpr (ma.mp y)), if_neg (fun q => q u)] at hc
    rw [hI70]
    refine ⟨a, n', 0, 0, siz, fr, D, ea, ha, en, hn', by rw [← en]; exact hc, es, hsiz, by rw [en]; rfl, rfl, by omega, by omega, rfl, Sm.rf, hDe, hwf, hn6, ?_⟩
    by_cases w : fr < 0
    · exact Or.inl ⟨w, rfl, rfl, rfl, rfl⟩
    · obtain ⟨f, hf, ef⟩ := nI_of w
      refine Or.inr ⟨f, hf, ef, ef, Or.inl rfl, ?_⟩
      unfold smA
      split
      · next e => subst e; rfl
      · rw [ef, nI_clamp hf]; rfl
