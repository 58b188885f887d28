/-! ===== seams by a sheet: the model ===== -/
def YM (a b : Nat) : Prop := (78 ≤ a ∧ a ≤ 83) ∨ (a = 76 ∧ b = 2)
def T_X6_seams (g : WG) (as : List Value) (M : MM) (Q : Option Value → MM → Prop) : Prop := ∃ sh so fr n, as = [.ref 76, .int sh, .int so, .int fr, .int n] ∧ okM M ∧ zM M ∧ dn (dm M) ≤ 6 ∧ (∀ a, a < 4 → ∃ n, n ≤ 40 ∧ M 100 a = nI n) ∧ (¬ smC (M 99) sh so n = 0 → Q (some (.int (smC (M 99) sh so n))) M) ∧ (smC (M 99) sh so n = 0 → ∀ a n' M', sh = nI a → a < 4 → n = nI n' → n' ≤ 6 → Sm YM M M' → okM M' → zM M' → dm M' = (smA (fun j => M 101 (40 * a + j)) (M 100 a).toNatClampNeg n' fr (dm M)).2 → Q (some (.int (smA (fun j => M 101 (40 * a + j)) (M 100 a).toNatClampNeg n' fr (dm M)).1)) M')
set_option maxRecDepth 100000 in
set_option maxHeartbeats 4000000 in
theorem t_X6_seams {l : Launch} {g : WG} (hg : Full g) : Ct l g yX6_seams cX6_seams 10 ((Option.some FieldType.int)) 4 (T_X6_seams g) := by
  refine Ct.of (by decide) (fun as M Q h => ?_) (fun p e s m args below meth c as M Q h C => ?_)
  · obtain ⟨sh, so, fr, n0, rfl, ho, hz, hn6, hsz, hb, h⟩ := h; exact ⟨by simp, by simp [Value.category]⟩
  · obtain ⟨sh, so, fr, n0, rfl, ho, hz, hn6, hsz, hb, h⟩ := h
    obtain ⟨Tn, hwf, htx, h9⟩ := id ho
    obtain ⟨I61, hI61⟩ : ∃ I : Nat → PP, I = (fun n lv st M' => ∃ a n' k came siz D1, sh = nI a ∧ a < 4 ∧ n0 = nI n' ∧ n' ≤ 6 ∧ smC (M 99) sh so (nI n') = 0 ∧ M 100 a = nI siz ∧ siz ≤ 40 ∧ lv = [(0, .ref 76), (1, .int (nI a)), (3, .int fr), (4, .int (nI n')), (5, .int (nI came)), (6, .int (nI k))] ∧ st = [] ∧ k ≤ n' ∧ came ≤ k ∧ n = n' - k ∧ Sm YM M M' ∧ zM M' ∧ dm M' = D1 ∧ wfD D1 Tn ∧ dn D1 ≤ 6 ∧ ((fr < 0 ∧ k = 0 ∧ came = 0 ∧ D1 = dm M) ∨ ∃ f, f < 2 ^ 31 ∧ fr = nI f ∧ smN (fun j => M 101 (40 * a + j)) siz (n' - k) (f + 3 * k) came D1 = smA (fun j => M 101 (40 * a + j)) siz n' fr (dm M))) := ⟨_, rfl⟩
    obtain ⟨E61, hE61⟩ : ∃ E : PP, E = (fun lv st M => ∃ n, I61 n lv st M) := ⟨_, rfl⟩
    have iE61 : ∀ n lv st M, I61 n lv st M → E61 lv st M := fun n lv st M h => by rw [hE61]; exact ⟨n, h⟩
    have L61 : Sj p l e 4 s m args below meth c 10 g (MQ below (cQc g Q) args s 0 0 (gA g)) 61 E61 := by
      rw [hE61]
      refine s_ex (s_loop I61 (fun K61 k61 => WX6_seams_61 C (t_X6_isSheet hg) (by decide) (t_X6_within hg) (by decide) (t_X6_seam hg) (by decide) k61) ?_)
      intro n lv st M1 K61 hK61 hI; rw [hI61] at hI; obtain ⟨a, n', k, came, siz, D1, ea, ha, en, hn', hc, es, hsiz, rfl, rfl, hk, hck, rfl, hs, hz1, hd, hwf1, hn1, hor⟩ := hI
      unfold BX6_seams_61
      generalize hB146 : BX6_seams_146 g Q (T_X6_isSheet g) (T_X6_within g) (T_X6_seam g) K61 = B146
      simp only [T_X6_isSheet, T_X6_within, T_X6_seam, i_const, i_lconst, i_iload, i_aload, i_lload, i_istore, i_astore, i_lstore, i_iinc, i_bin, i_div, i_un, i_i2l, i_l2i, i_lbin, i_lcmp, i_if, i_icmp, i_dup, i_dup_x1, i_dup2, i_pop, i_geti, i_getr, i_getd, i_puti, i_putz, i_putd, i_iald, i_bald, i_aald, i_iast, i_bast, i_alen, i_keep, i_ret, i_retz, i_reta, i_retl, i_retv, i_callv, i_callk, i_calls, i_mm, i_copy, i_under, i_undld, i_ldcs, i_sw, q_swc0, q_swc1, q_lg0, q_lg1, q_lent0, q_lent1, lset, lset2, q_lins0, q_lins1, q_ldel0, q_ldel1, q_ldel20, q_ldel21, q_lkeep0, q_lkeep1, q_memb0, q_memb1, cat2, Nat.reduceBEq, decide_true, decide_false, decide_eq_true_eq, cond_true, cond_false, Bool.and_true, Bool.and_false, Bool.true_and, Bool.false_and, f_iadd, f_isub, f_imul, f_ishl, f_ishr, f_iushr, f_iand, f_ior, f_idiv, f_irem, f_ineg, f_i2b, f_i2s, f_ladd, f_lmul, c_eq, c_ne, c_lt, c_ge, c_gt, c_le, cc_eq, cc_ne, cc_lt, cc_ge, cc_gt, cc_le, rfo, aof, csum, Value.category, List.take, List.drop, List.reverse, List.reverseAux, List.map, List.sum_cons, List.sum_nil, List.cons_append, List.nil_append, Option.toList, List.mem_cons, List.not_mem_nil, List.length_cons, List.length_nil, reduceIte, Nat.reduceEqDiff, Nat.reduceAdd, Nat.reduceLeDiff, Nat.reduceLT, a_day, Nat.zero_ne_one, Nat.one_ne_zero, false_and, and_false, true_and, and_true, or_false, false_or, or_true, true_or, not_true_eq_false, not_false_eq_true, Nat.zero_add, Nat.add_zero, Nat.le_refl, Nat.lt_irrefl, Nat.zero_lt_succ, Nat.zero_le, forall_const, List.cons.injEq, Value.int.injEq, Value.ref.injEq, Value.long.injEq, and_assoc, exists_and_left, exists_eq_left']
      try simp only [forall_eq]
      rw [← en] at hc
      have fin0 : ∀ p : Int32 × DV, smA (fun j => M 101 (40 * a + j)) siz n' fr (dm M) = p → D1 = p.2 → Q (some (.int p.1)) M1 := by
        intro q e1 e2
        have hko := (okM.to hs hd hwf1 htx h9 (by unfold YM; omega) (fun a b _ _ => by unfold YM; omega)).1
        have := h hc a n' M1 ea ha en hn' hs hko hz1
        rw [es, nI_clamp (by omega), e1] at this
        exact this (hd.trans e2)
      have f100 : M1 100 a = nI siz := by rw [hs _ _ (by unfold YM; omega)]; exact es
      rw [nI_leI (by omega) (by omega), nI_clamp (by omega), f100]
      refine ⟨fun z => ?_, fun z => ?_⟩
      · have e : k = n' := by omega
        subst e
        rcases hor with ⟨w1, w2, w3, w4⟩ | ⟨f, hf, ef, e⟩
        · refine fin0 (nI came, D1) ?_ rfl
          unfold smA
          rw [if_pos w2, w3, w4]; rfl
        · rw [Nat.sub_self] at e
          exact fin0 (nI came, D1) e.symm rfl
      · have l3 : (3 : Int64) = lN 3 := rfl
        have l0 : (0 : Int64) = lN 0 := rfl
        have l2 : (2 : Int64) = lN 2 := rfl
        rcases hor with ⟨w1, w2, w3, w4⟩ | ⟨f, hf, ef, e⟩
        · have hneg : lg_cmp (fr.toInt64 + 3 * (nI k).toInt64) 0 < 0 := by
            rw [lg_cmp_lt, w2, show (3 : Int64) * (nI 0).toInt64 = 0 by decide, Int64.add_zero, Int64.lt_iff_toInt_lt, Int32.toInt_toInt64]
            rw [i_lt] at w1
            exact w1
          refine ⟨fun _ => fin0 (-12, D1) ?_ rfl, fun q => absurd hneg q⟩
          unfold smA
          rw [if_neg (by omega), if_pos w1, w4]
        · have el : fr.toInt64 + 3 * (nI k).toInt64 = lN (f + 3 * k) := by rw [ef, nI_l hf, nI_l (by omega), l3, lN_mul, lN_add]
          have est : smN (fun j => M 101 (40 * a + j)) siz (n' - k) (f + 3 * k) came D1 = if f + 3 * k + 2 < siz then smN (fun j => M 101 (40 * a + j)) siz (n' - (k + 1)) (f + 3 * k + 3) (if smB D1 (M 101 (40 * a + (f + 3 * k))) (M 101 (40 * a + (f + 3 * k + 1))) (M 101 (40 * a + (f + 3 * k + 2))) then came + 1 else came) (smE D1 (M 101 (40 * a + (f + 3 * k))) (M 101 (40 * a + (f + 3 * k + 1))) (M 101 (40 * a + (f + 3 * k + 2)))) else (-12, D1) := by
            rw [show n' - k = (n' - (k + 1)) + 1 by omega]; rfl
          rw [e] at est
          rw [el, lg_cmp_lt, l0, pk_lLT (by omega) (by decide), l2, lN_add, nI_l (n := siz) (by omega), lg_cmp_lt, pk_lLT (by omega) (by omega), lN_i]
          refine ⟨fun q => absurd q (by omega), fun _ => ⟨m_76 hg, m_100 hg, vm l_100 ha (by decide), fun y => ?_, fun y => ?_⟩⟩
          · rw [if_pos y] at est
            rw [show (40 : Int32) = nI 40 from rfl, show (2 : Int32) = nI 2 from rfl, pk_mul, nI_add, nI_1, nI_add, nI_clamp (by omega), nI_clamp (by omega), nI_clamp (by omega)]
            have a0 : M1 101 (40 * a + (f + 3 * k)) = M 101 (40 * a + (f + 3 * k)) := hs _ _ (by unfold YM; omega)
            have a1 : M1 101 (40 * a + (f + 3 * k) + 1) = M 101 (40 * a + (f + 3 * k + 1)) := by rw [hs _ _ (by unfold YM; omega)]; rfl
            have a2 : M1 101 (40 * a + (f + 3 * k) + 2) = M 101 (40 * a + (f + 3 * k + 2)) := by rw [hs _ _ (by unfold YM; omega)]; rfl
            rw [a0, a1, a2]
            generalize M 101 (40 * a + (f + 3 * k)) = x0 at *
            generalize M 101 (40 * a + (f + 3 * k + 1)) = x1 at *
            generalize M 101 (40 * a + (f + 3 * k + 2)) = x2 at *
            have hko := (okM.to hs hd hwf1 htx h9 (by unfold YM; omega) (fun a b _ _ => by unfold YM; omega)).1
            obtain ⟨wf2, dn2⟩ := wfD_sm (k := x0) (n := x1) (e := x2) hwf1 hn1
            have fin : ∀ M2 c2, Sm YM M M2 → zM M2 → dm M2 = smE D1 x0 x1 x2 → c2 = (if smB D1 x0 x1 x2 then came + 1 else came) → K61 [(0, .ref 76), (1, .int (nI a)), (3, .int fr), (4, .int (nI n')), (5, .int (nI c2)), (6, .int (nI (k + 1)))] [] M2 := by
              intro M2 c2 hs2 hz2 hd2 hc2
              refine hK61 (n' - (k + 1)) _ _ _ (by omega) ?_
              rw [hI61]
              refine ⟨a, n', k + 1, c2, siz, _, ea, ha, en, hn', by rw [← en]; exact hc, es, hsiz, rfl, rfl, by omega, ?_, rfl, hs2, hz2, hd2, wf2, dn2, Or.inr ⟨f, hf, ef, ?_⟩⟩
              · rw [hc2]; split <;> omega
              · rw [hc2, show f + 3 * (k + 1) = f + 3 * k + 3 by omega, est]
            have no : ¬ (seamOK x0 x1 x2 ∧ dn D1 < 6) → smB D1 x0 x1 x2 = false := fun q => by
              cases hB : smB D1 x0 x1 x2 with
              | false => rfl
              | true => exact absurd (smB_iff.mp hB) q
            refine ⟨m_76 hg, m_101 hg, vm l_101 (by omega) (by decide), m_76 hg, m_101 hg, vm l_101 (by omega) (by decide), m_76 hg, m_101 hg, vm l_101 (by omega) (by decide), (m_76 hg).1, (m_76 hg).2.1, hko, hz1, by rw [hd]; exact hn1, fun q => ?_, fun q1 q2 => ?_, fun q1 q2 M2 hs2 hd2 hz2 => ?_⟩
            · subst hB146
              unfold BX6_seams_146
              simp only [T_X6_isSheet, T_X6_within, T_X6_seam, i_const, i_lconst, i_iload, i_aload, i_lload, i_istore, i_astore, i_lstore, i_iinc, i_bin, i_div, i_un, i_i2l, i_l2i, i_lbin, i_lcmp, i_if, i_icmp, i_dup, i_dup_x1, i_dup2, i_pop, i_geti, i_getr, i_getd, i_puti, i_putz, i_putd, i_iald, i_bald, i_aald, i_iast, i_bast, i_alen, i_keep, i_ret, i_retz, i_reta, i_retl, i_retv, i_callv, i_callk, i_calls, i_mm, i_copy, i_under, i_undld, i_ldcs, i_sw, q_swc0, q_swc1, q_lg0, q_lg1, q_lent0, q_lent1, lset, lset2, q_lins0, q_lins1, q_ldel0, q_ldel1, q_ldel20, q_ldel21, q_lkeep0, q_lkeep1, q_memb0, q_memb1, cat2, Nat.reduceBEq, decide_true, decide_false, decide_eq_true_eq, cond_true, cond_false, Bool.and_true, Bool.and_false, Bool.true_and, Bool.false_and, f_iadd, f_isub, f_imul, f_ishl, f_ishr, f_iushr, f_iand, f_ior, f_idiv, f_irem, f_ineg, f_i2b, f_i2s, f_ladd, f_lmul, c_eq, c_ne, c_lt, c_ge, c_gt, c_le, cc_eq, cc_ne, cc_lt, cc_ge, cc_gt, cc_le, rfo, aof, csum, Value.category, List.take, List.drop, List.reverse, List.reverseAux, List.map, List.sum_cons, List.sum_nil, List.cons_append, List.nil_append, Option.toList, List.mem_cons, List.not_mem_nil, List.length_cons, List.length_nil, reduceIte, Nat.reduceEqDiff, Nat.reduceAdd, Nat.reduceLeDiff, Nat.reduceLT, a_day, Nat.zero_ne_one, Nat.one_ne_zero, false_and, and_false, true_and, and_true, or_false, false_or, or_true, true_or, not_true_eq_false, not_false_eq_true, Nat.zero_add, Nat.add_zero, Nat.le_refl, Nat.lt_irrefl, Nat.zero_lt_succ, Nat.zero_le, forall_const, List.cons.injEq, Value.int.injEq, Value.ref.injEq, Value.long.injEq, and_assoc, exists_and_left, exists_eq_left']
              try simp only [forall_eq]
              have hB := no (fun r => q r.1)
              rw [nI_1]
              exact ⟨fun _ => fin M1 came hs hz1 (by rw [hd]; unfold smE; rw [hB]; rfl) (by rw [hB]; rfl), fun r => absurd (by decide) r⟩
            · subst hB146
              unfold BX6_seams_146
              simp only [T_X6_isSheet, T_X6_within, T_X6_seam, i_const, i_lconst, i_iload, i_aload, i_lload, i_istore, i_astore, i_lstore, i_iinc, i_bin, i_div, i_un, i_i2l, i_l2i, i_lbin, i_lcmp, i_if, i_icmp, i_dup, i_dup_x1, i_dup2, i_pop, i_geti, i_getr, i_getd, i_puti, i_putz, i_putd, i_iald, i_bald, i_aald, i_iast, i_bast, i_alen, i_keep, i_ret, i_retz, i_reta, i_retl, i_retv, i_callv, i_callk, i_calls, i_mm, i_copy, i_under, i_undld, i_ldcs, i_sw, q_swc0, q_swc1, q_lg0, q_lg1, q_lent0, q_lent1, lset, lset2, q_lins0, q_lins1, q_ldel0, q_ldel1, q_ldel20, q_ldel21, q_lkeep0, q_lkeep1, q_memb0, q_memb1, cat2, Nat.reduceBEq, decide_true, decide_false, decide_eq_true_eq, cond_true, cond_false, Bool.and_true, Bool.and_false, Bool.true_and, Bool.false_and, f_iadd, f_isub, f_imul, f_ishl, f_ishr, f_iushr, f_iand, f_ior, f_idiv, f_irem, f_ineg, f_i2b, f_i2s, f_ladd, f_lmul, c_eq, c_ne, c_lt, c_ge, c_gt, c_le, cc_eq, cc_ne, cc_lt, cc_ge, cc_gt, cc_le, rfo, aof, csum, Value.category, List.take, List.drop, List.reverse, List.reverseAux, List.map, List.sum_cons, List.sum_nil, List.cons_append, List.nil_append, Option.toList, List.mem_cons, List.not_mem_nil, List.length_cons, List.length_nil, reduceIte, Nat.reduceEqDiff, Nat.reduceAdd, Nat.reduceLeDiff, Nat.reduceLT, a_day, Nat.zero_ne_one, Nat.one_ne_zero, false_and, and_false, true_and, and_true, or_false, false_or, or_true, true_or, not_true_eq_false, not_false_eq_true, Nat.zero_add, Nat.add_zero, Nat.le_refl, Nat.lt_irrefl, Nat.zero_lt_succ, Nat.zero_le, forall_const, List.cons.injEq, Value.int.injEq, Value.ref.injEq, Value.long.injEq, and_assoc, exists_and_left, exists_eq_left']
              try simp only [forall_eq]
              rw [hd] at q2
              have hB := no (fun r => by omega)
              rw [nI_1]
              exact ⟨fun _ => fin M1 came hs hz1 (by rw [hd]; unfold smE; rw [hB]; rfl) (by rw [hB]; rfl), fun r => absurd (by decide) r⟩
            · subst hB146
              unfold BX6_seams_146
              simp only [T_X6_isSheet, T_X6_within, T_X6_seam, i_const, i_lconst, i_iload, i_aload, i_lload, i_istore, i_astore, i_lstore, i_iinc, i_bin, i_div, i_un, i_i2l, i_l2i, i_lbin, i_lcmp, i_if, i_icmp, i_dup, i_dup_x1, i_dup2, i_pop, i_geti, i_getr, i_getd, i_puti, i_putz, i_putd, i_iald, i_bald, i_aald, i_iast, i_bast, i_alen, i_keep, i_ret, i_retz, i_reta, i_retl, i_retv, i_callv, i_callk, i_calls, i_mm, i_copy, i_under, i_undld, i_ldcs, i_sw, q_swc0, q_swc1, q_lg0, q_lg1, q_lent0, q_lent1, lset, lset2, q_lins0, q_lins1, q_ldel0, q_ldel1, q_ldel20, q_ldel21, q_lkeep0, q_lkeep1, q_memb0, q_memb1, cat2, Nat.reduceBEq, decide_true, decide_false, decide_eq_true_eq, cond_true, cond_false, Bool.and_true, Bool.and_false, Bool.true_and, Bool.false_and, f_iadd, f_isub, f_imul, f_ishl, f_ishr, f_iushr, f_iand, f_ior, f_idiv, f_irem, f_ineg, f_i2b, f_i2s, f_ladd, f_lmul, c_eq, c_ne, c_lt, c_ge, c_gt, c_le, cc_eq, cc_ne, cc_lt, cc_ge, cc_gt, cc_le, rfo, aof, csum, Value.category, List.take, List.drop, List.reverse, List.reverseAux, List.map, List.sum_cons, List.sum_nil, List.cons_append, List.nil_append, Option.toList, List.mem_cons, List.not_mem_nil, List.length_cons, List.length_nil, reduceIte, Nat.reduceEqDiff, Nat.reduceAdd, Nat.reduceLeDiff, Nat.reduceLT, a_day, Nat.zero_ne_one, Nat.one_ne_zero, false_and, and_false, true_and, and_true, or_false, false_or, or_true, true_or, not_true_eq_false, not_false_eq_true, Nat.zero_add, Nat.add_zero, Nat.le_refl, Nat.lt_irrefl, Nat.zero_lt_succ, Nat.zero_le, forall_const, List.cons.injEq, Value.int.injEq, Value.ref.injEq, Value.long.injEq, and_assoc, exists_and_left, exists_eq_left']
              try simp only [forall_eq]
              rw [hd] at q2 hd2 hs2
              have hB : smB D1 x0 x1 x2 = true := smB_iff.mpr ⟨q1, q2⟩
              rw [nI_1, nI_1]
              exact ⟨fun r => absurd r (nI_pos (by rw [hd]; omega)), fun _ => fin M2 (came + 1) (hs.tr (hs2.mono fun a b r => by unfold YM; omega)) hz2 (by rw [hd2]; unfold smE; rw [hB]; rfl) (by rw [hB]; rfl)⟩
          · rw [if_neg y] at est
            exact fin0 (-12, D1) est rfl
      
    refine s_of (fun lv st M0 hs => ?_) (WX6_seams_0 C (t_X6_isSheet hg) (by decide) (t_X6_within hg) (by decide) (t_X6_seam hg) (by decide) L61)
    obtain ⟨rfl, rfl, rfl⟩ := hs
    unfold BX6_seams_0
    generalize hB4 : BX6_seams_4 g Q (T_X6_isSheet g) (T_X6_within g) (T_X6_seam g) E61 = B4
    simp only [T_X6_isSheet, T_X6_within, T_X6_seam, i_const, i_lconst, i_iload, i_aload, i_lload, i_istore, i_astore, i_lstore, i_iinc, i_bin, i_div, i_un, i_i2l, i_l2i, i_lbin, i_lcmp, i_if, i_icmp, i_dup, i_dup_x1, i_dup2, i_pop, i_geti, i_getr, i_getd, i_puti, i_putz, i_putd, i_iald, i_bald, i_aald, i_iast, i_bast, i_alen, i_keep, i_ret, i_retz, i_reta, i_retl, i_retv, i_callv, i_callk, i_calls, i_mm, i_copy, i_under, i_undld, i_ldcs, i_sw, q_swc0, q_swc1, q_lg0, q_lg1, q_lent0, q_lent1, lset, lset2, q_lins0, q_lins1, q_ldel0, q_ldel1, q_ldel20, q_ldel21, q_lkeep0, q_lkeep1, q_memb0, q_memb1, cat2, Nat.reduceBEq, decide_true, decide_false, decide_eq_true_eq, cond_true, cond_false, Bool.and_true, Bool.and_false, Bool.true_and, Bool.false_and, f_iadd, f_isub, f_imul, f_ishl, f_ishr, f_iushr, f_iand, f_ior, f_idiv, f_irem, f_ineg, f_i2b, f_i2s, f_ladd, f_lmul, c_eq, c_ne, c_lt, c_ge, c_gt, c_le, cc_eq, cc_ne, cc_lt, cc_ge, cc_gt, cc_le, rfo, aof, csum, Value.category, List.take, List.drop, List.reverse, List.reverseAux, List.map, List.sum_cons, List.sum_nil, List.cons_append, List.nil_append, Option.toList, List.mem_cons, List.not_mem_nil, List.length_cons, List.length_nil, reduceIte, Nat.reduceEqDiff, Nat.reduceAdd, Nat.reduceLeDiff, Nat.reduceLT, a_day, Nat.zero_ne_one, Nat.one_ne_zero, false_and, and_false, true_and, and_true, or_false, false_or, or_true, true_or, not_true_eq_false, not_false_eq_true, Nat.zero_add, Nat.add_zero, Nat.le_refl, Nat.lt_irrefl, Nat.zero_lt_succ, Nat.zero_le, forall_const, List.cons.injEq, Value.int.injEq, Value.ref.injEq, Value.long.injEq, and_assoc, exists_and_left, exists_eq_left']
    try simp only [forall_eq]
    have bad : ∀ x : Int32, ¬ x = 0 → smC (M0 99) sh so n0 = x → Q (some (.int x)) M0 := by
      intro x hx e
      rw [e] at hb
      exact hb hx
    subst hB4
    unfold BX6_seams_4
    generalize hB13 : BX6_seams_13 g Q (T_X6_isSheet g) (T_X6_within g) (T_X6_seam g) E61 = B13
    simp only [T_X6_isSheet, T_X6_within, T_X6_seam, i_const, i_lconst, i_iload, i_aload, i_lload, i_istore, i_astore, i_lstore, i_iinc, i_bin, i_div, i_un, i_i2l, i_l2i, i_lbin, i_lcmp, i_if, i_icmp, i_dup, i_dup_x1, i_dup2, i_pop, i_geti, i_getr, i_getd, i_puti, i_putz, i_putd, i_iald, i_bald, i_aald, i_iast, i_bast, i_alen, i_keep, i_ret, i_retz, i_reta, i_retl, i_retv, i_callv, i_callk, i_calls, i_mm, i_copy, i_under, i_undld, i_ldcs, i_sw, q_swc0, q_swc1, q_lg0, q_lg1, q_lent0, q_lent1, lset, lset2, q_lins0, q_lins1, q_ldel0, q_ldel1, q_ldel20, q_ldel21, q_lkeep0, q_lkeep1, q_memb0, q_memb1, cat2, Nat.reduceBEq, decide_true, decide_false, decide_eq_true_eq, cond_true, cond_false, Bool.and_true, Bool.and_false, Bool.true_and, Bool.false_and, f_iadd, f_isub, f_imul, f_ishl, f_ishr, f_iushr, f_iand, f_ior, f_idiv, f_irem, f_ineg, f_i2b, f_i2s, f_ladd, f_lmul, c_eq, c_ne, c_lt, c_ge, c_gt, c_le, cc_eq, cc_ne, cc_lt, cc_ge, cc_gt, cc_le, rfo, aof, csum, Value.category, List.take, List.drop, List.reverse, List.reverseAux, List.map, List.sum_cons, List.sum_nil, List.cons_append, List.nil_append, Option.toList, List.mem_cons, List.not_mem_nil, List.length_cons, List.length_nil, reduceIte, Nat.reduceEqDiff, Nat.reduceAdd, Nat.reduceLeDiff, Nat.reduceLT, a_day, Nat.zero_ne_one, Nat.one_ne_zero, false_and, and_false, true_and, and_true, or_false, false_or, or_true, true_or, not_true_eq_false, not_false_eq_true, Nat.zero_add, Nat.add_zero, Nat.le_refl, Nat.lt_irrefl, Nat.zero_lt_succ, Nat.zero_le, forall_const, List.cons.injEq, Value.int.injEq, Value.ref.injEq, Value.long.injEq, and_assoc, exists_and_left, exists_eq_left']
    try simp only [forall_eq]
    refine ⟨fun z1 => bad _ (by decide) (by unfold smC; rw [if_pos (fun q => b2n z1 q.1.1)]), fun z1 => ?_⟩
    subst hB13
    unfold BX6_seams_13
    generalize hB24 : BX6_seams_24 g Q (T_X6_isSheet g) (T_X6_within g) (T_X6_seam g) E61 = B24
    simp only [T_X6_isSheet, T_X6_within, T_X6_seam, i_const, i_lconst, i_iload, i_aload, i_lload, i_istore, i_astore, i_lstore, i_iinc, i_bin, i_div, i_un, i_i2l, i_l2i, i_lbin, i_lcmp, i_if, i_icmp, i_dup, i_dup_x1, i_dup2, i_pop, i_geti, i_getr, i_getd, i_puti, i_putz, i_putd, i_iald, i_bald, i_aald, i_iast, i_bast, i_alen, i_keep, i_ret, i_retz, i_reta, i_retl, i_retv, i_callv, i_callk, i_calls, i_mm, i_copy, i_under, i_undld, i_ldcs, i_sw, q_swc0, q_swc1, q_lg0, q_lg1, q_lent0, q_lent1, lset, lset2, q_lins0, q_lins1, q_ldel0, q_ldel1, q_ldel20, q_ldel21, q_lkeep0, q_lkeep1, q_memb0, q_memb1, cat2, Nat.reduceBEq, decide_true, decide_false, decide_eq_true_eq, cond_true, cond_false, Bool.and_true, Bool.and_false, Bool.true_and, Bool.false_and, f_iadd, f_isub, f_imul, f_ishl, f_ishr, f_iushr, f_iand, f_ior, f_idiv, f_irem, f_ineg, f_i2b, f_i2s, f_ladd, f_lmul, c_eq, c_ne, c_lt, c_ge, c_gt, c_le, cc_eq, cc_ne, cc_lt, cc_ge, cc_gt, cc_le, rfo, aof, csum, Value.category, List.take, List.drop, List.reverse, List.reverseAux, List.map, List.sum_cons, List.sum_nil, List.cons_append, List.nil_append, Option.toList, List.mem_cons, List.not_mem_nil, List.length_cons, List.length_nil, reduceIte, Nat.reduceEqDiff, Nat.reduceAdd, Nat.reduceLeDiff, Nat.reduceLT, a_day, Nat.zero_ne_one, Nat.one_ne_zero, false_and, and_false, true_and, and_true, or_false, false_or, or_true, true_or, not_true_eq_false, not_false_eq_true, Nat.zero_add, Nat.add_zero, Nat.le_refl, Nat.lt_irrefl, Nat.zero_lt_succ, Nat.zero_le, forall_const, List.cons.injEq, Value.int.injEq, Value.ref.injEq, Value.long.injEq, and_assoc, exists_and_left, exists_eq_left']
    try simp only [forall_eq]
    refine ⟨fun z2 => bad _ (by decide) (by unfold smC; rw [if_pos (fun q => b2n z2 q.1.2)]), fun z2 => ?_⟩
    subst hB24
    unfold BX6_seams_24
    simp only [T_X6_isSheet, T_X6_within, T_X6_seam, i_const, i_lconst, i_iload, i_aload, i_lload, i_istore, i_astore, i_lstore, i_iinc, i_bin, i_div, i_un, i_i2l, i_l2i, i_lbin, i_lcmp, i_if, i_icmp, i_dup, i_dup_x1, i_dup2, i_pop, i_geti, i_getr, i_getd, i_puti, i_putz, i_putd, i_iald, i_bald, i_aald, i_iast, i_bast, i_alen, i_keep, i_ret, i_retz, i_reta, i_retl, i_retv, i_callv, i_callk, i_calls, i_mm, i_copy, i_under, i_undld, i_ldcs, i_sw, q_swc0, q_swc1, q_lg0, q_lg1, q_lent0, q_lent1, lset, lset2, q_lins0, q_lins1, q_ldel0, q_ldel1, q_ldel20, q_ldel21, q_lkeep0, q_lkeep1, q_memb0, q_memb1, cat2, Nat.reduceBEq, decide_true, decide_false, decide_eq_true_eq, cond_true, cond_false, Bool.and_true, Bool.and_false, Bool.true_and, Bool.false_and, f_iadd, f_isub, f_imul, f_ishl, f_ishr, f_iushr, f_iand, f_ior, f_idiv, f_irem, f_ineg, f_i2b, f_i2s, f_ladd, f_lmul, c_eq, c_ne, c_lt, c_ge, c_gt, c_le, cc_eq, cc_ne, cc_lt, cc_ge, cc_gt, cc_le, rfo, aof, csum, Value.category, List.take, List.drop, List.reverse, List.reverseAux, List.map, List.sum_cons, List.sum_nil, List.cons_append, List.nil_append, Option.toList, List.mem_cons, List.not_mem_nil, List.length_cons, List.length_nil, reduceIte, Nat.reduceEqDiff, Nat.reduceAdd, Nat.reduceLeDiff, Nat.reduceLT, a_day, Nat.zero_ne_one, Nat.one_ne_zero, false_and, and_false, true_and, and_true, or_false, false_or, or_true, true_or, not_true_eq_false, not_false_eq_true, Nat.zero_add, Nat.add_zero, Nat.le_refl, Nat.lt_irrefl, Nat.zero_lt_succ, Nat.zero_le, forall_const, List.cons.injEq, Value.int.injEq, Value.ref.injEq, Value.long.injEq, and_assoc, exists_and_left, exists_eq_left']
    try simp only [forall_eq]
    refine ⟨fun z3 => ?_, fun z3 => bad _ (by decide) (by unfold smC; rw [if_pos (fun q => b2n (Decidable.not_not.mp z3) q.2)])⟩
    have c1 := b2t z1
    have c2 := b2t z2
    have c3 := b2t z3
    obtain ⟨a, ha, ea⟩ := sh_4 c1
    obtain ⟨siz, hsiz, es⟩ := hsz a ha
    obtain ⟨n', hn31, en⟩ := nI_of (i_not_lt.mpr c3.1)
    have hn' : n' ≤ 6 := by
      have := c3.2
      rw [en] at this
      exact (nI_leI (b := 6) hn31 (by decide)).mp this
    have hc : smC (M0 99) sh so n0 = if M0 99 a < 0 then -11 else if ¬ M0 99 a = so then -13 else 0 := by
      unfold smC; rw [if_neg (fun q => q ⟨⟨c1, c2⟩, c3⟩), ea, nI_clamp (by omega)]
    rw [ea, nI_clamp (by omega)]
    refine ⟨m_76 hg, m_99 hg, vm l_99 ha (by decide), fun y => ⟨m_76 hg, m_99 hg, vm l_99 ha (by decide), fun u => iE61 (n' - 0) _ _ _ ?_, fun u => bad _ (by decide) (by rw [hc, if_neg (i_not_lt.mpr y), if_pos u])⟩, fun y => bad _ (by decide) (by rw [hc, if_pos (i_not_le.mp y)])⟩
    rw [if_neg (i_not_lt.mpr y), if_neg (fun q => q u)] at hc
    rw [hI61]
    refine ⟨a, n', 0, 0, siz, dm M0, ea, ha, en, hn', by rw [← en]; exact hc, es, hsiz, by rw [en]; rfl, rfl, by omega, by omega, rfl, Sm.rf, hz, rfl, hwf, hn6, ?_⟩
    by_cases w : fr < 0
    · exact Or.inl ⟨w, rfl, rfl, rfl⟩
    · obtain ⟨f, hf, ef⟩ := nI_of w
      refine Or.inr ⟨f, hf, ef, ?_⟩
      unfold smA
      split
      · next e => subst e; rfl
      · rw [ef, nI_clamp hf]; rfl
