/-! ===== the class: cut, unpick, thread, move ===== -/
theorem addD_up {D : DV} {k n a b f l : Int32} : upF (upF (addD D k n a b) 3 (dn D) f) 4 (dn D) l = addD D k n f l := by
  funext f' i
  by_cases h4 : f' = 4 ∧ i = dn D
  · obtain ⟨rfl, rfl⟩ := h4
    rw [upF_s]; simp [addD]
  · have e4 : upF (upF (addD D k n a b) 3 (dn D) f) 4 (dn D) l f' i = upF (addD D k n a b) 3 (dn D) f f' i := if_neg h4
    rw [e4]
    by_cases h3 : f' = 3 ∧ i = dn D
    · obtain ⟨rfl, rfl⟩ := h3
      rw [upF_s]; simp [addD]
    · have e3 : upF (addD D k n a b) 3 (dn D) f f' i = addD D k n a b f' i := if_neg h3
      rw [e3]
      unfold addD
      by_cases h7 : f' = 7 ∧ i = 0
      · rw [if_pos h7, if_pos h7]
      · rw [if_neg h7, if_neg h7]
        by_cases hi : i = dn D ∧ 0 < f' ∧ f' < 7
        · rw [if_pos hi, if_pos hi]
          have n3 : ¬ f' = 3 := fun q => h3 ⟨q, hi.1⟩
          have n4 : ¬ f' = 4 := fun q => h4 ⟨q, hi.1⟩
          simp [n3, n4]
        · rw [if_neg hi, if_neg hi]
theorem dn_addD {D : DV} {k n f l : Int32} (h : dn D ≤ 6) : dn (addD D k n f l) = dn D + 1 := by
  show (addD D k n f l 7 0).toNatClampNeg = _
  rw [show addD D k n f l 7 0 = nI (dn D + 1) by simp [addD], nI_clamp (by omega)]
theorem i_nle {a b : Int32} : ¬ a ≤ b ↔ b < a := i_not_le
def T_X5_cut (g : WG) (as : List Value) (M : MM) (Q : Option Value → MM → Prop) : Prop := ∃ k n w, as = [.ref 0, .int k, .int n, .int w] ∧ okD M 40 ∧ dn (dv M 40) ≤ 6 ∧ ∀ M', Sm YC M M' → Q (some (.int (cutA (xc M) (dv M 40) k n w))) M'
set_option maxRecDepth 100000 in
set_option maxHeartbeats 4000000 in
theorem t_X5_cut {l : Launch} {g : WG} (hg : Full g) : Ct l g yX5_cut cX5_cut 10 ((Option.some FieldType.int)) 7 (T_X5_cut g) := by
  refine Ct.of (by decide) (fun as M Q h => ?_) (fun p e s m args below meth c as M Q h C => ?_)
  · obtain ⟨k, nu, w, rfl, ho, hn, h⟩ := h; exact ⟨by simp, by simp [Value.category]⟩
  · obtain ⟨k, nu, w, rfl, ho, hn, h⟩ := h
    have hmany := ho.many
    obtain ⟨-, Tn, hwf, htx⟩ := id ho
    obtain ⟨D, hDe⟩ : ∃ D, dv M 40 = D := ⟨_, rfl⟩
    obtain ⟨X, hXe⟩ : ∃ X, xc M = X := ⟨_, rfl⟩
    obtain ⟨N, hN⟩ : ∃ N, dn (dv M 40) = N := ⟨_, rfl⟩
    rw [hDe] at hn hwf hmany hN
    rw [hDe, hXe] at h
    have hT := hwf.2.2.2.2
    obtain ⟨W, hW⟩ : ∃ W, cutW X D k nu = W := ⟨_, rfl⟩
    obtain ⟨p0, hp0⟩ : ∃ p0, (wor X D, (-1 : Int32)) = p0 := ⟨_, rfl⟩
    have hc := fun (c1 : ((0 ≤ k ∧ k ≤ 5) ∧ (0 ≤ nu ∧ nu ≤ 9)) ∧ (0 ≤ w ∧ w ≤ 1)) M' hs => by
      have := h M' hs
      rwa [cutA, if_pos c1, hW, hp0] at this
    have hf := fun (c1 : ¬ (((0 ≤ k ∧ k ≤ 5) ∧ (0 ≤ nu ∧ nu ≤ 9)) ∧ (0 ≤ w ∧ w ≤ 1))) => by
      have := h M Sm.rf
      rwa [cutA, if_neg c1] at this
    obtain ⟨I63, hI63⟩ : ∃ I : Nat → PP, I = (fun n lv st M' => ∃ f, lv = [(0, .ref 0), (3, .int w), (4, .int (cutO W f p0).1), (5, .int (cutO W f p0).2), (6, .ref (57 + N)), (7, .int (nI f))] ∧ st = [] ∧ f ≤ 16 ∧ n = 16 - f ∧ Sm YC M M' ∧ (∃ a b, dv M' 52 = addD D k nu a b) ∧ ((0 ≤ k ∧ k ≤ 5) ∧ (0 ≤ nu ∧ nu ≤ 9)) ∧ (0 ≤ w ∧ w ≤ 1)) := ⟨_, rfl⟩
    obtain ⟨E63, hE63⟩ : ∃ E : PP, E = (fun lv st M => ∃ n, I63 n lv st M) := ⟨_, rfl⟩
    have iE63 : ∀ n lv st M, I63 n lv st M → E63 lv st M := fun n lv st M h => by rw [hE63]; exact ⟨n, h⟩
    obtain ⟨I74, hI74⟩ : ∃ I : PP → Nat → PP, I = (fun K n lv st M' => ∃ f j, lv = [(0, .ref 0), (3, .int w), (4, .int (cutI W f j (cutO W f p0)).1), (5, .int (cutI W f j (cutO W f p0)).2), (6, .ref (57 + N)), (7, .int (nI f)), (8, .int (nI (f + j)))] ∧ st = [] ∧ f < 16 ∧ f + j ≤ 16 ∧ n = 16 - (f + j) ∧ Sm YC M M' ∧ (∃ a b, dv M' 52 = addD D k nu a b) ∧ (((0 ≤ k ∧ k ≤ 5) ∧ (0 ≤ nu ∧ nu ≤ 9)) ∧ (0 ≤ w ∧ w ≤ 1)) ∧ ∀ M2, Sm YC M M2 → (∃ a b, dv M2 52 = addD D k nu a b) → K [(0, .ref 0), (3, .int w), (4, .int (cutO W (f + 1) p0).1), (5, .int (cutO W (f + 1) p0).2), (6, .ref (57 + N)), (7, .int (nI (f + 1)))] [] M2) := ⟨_, rfl⟩
    have L74 : ∀ K63, Sj p l e 7 s m args below meth c 10 g (MQ below (cQc g Q) args s 0 0 (gA g)) 63 K63 → Sj p l e 7 s m args below meth c 10 g (MQ below (cQc g Q) args s 0 0 (gA g)) 74 (fun lv st M => ∃ n, I74 K63 n lv st M) := by
      intro K63 k63
      refine s_ex (s_loop (I74 K63) (fun K74 k74 => WX5_cut_74 C (t_X5_isKind hg) (by decide) (t_X5_isNumber hg) (by decide) (t_X5_isAsked hg) (by decide) (t_X0_worth hg) (by decide) (t_X0_become hg) (by decide) (t_X0_add hg) (by decide) (t_X1_sewUp hg) (by decide) k63 k74) ?_)
      intro n lv st M1 K74 hK74 hI; rw [hI74] at hI; obtain ⟨f, j, rfl, rfl, hf16, hj16, rfl, hs, hda, hcc, hK⟩ := hI
      unfold BX5_cut_74
      generalize hB90 : BX5_cut_90 g Q (T_X5_isKind g) (T_X5_isNumber g) (T_X5_isAsked g) (T_X0_worth g) (T_X0_become g) (T_X0_add g) (T_X1_sewUp g) K63 K74 = B90
      simp only [T_X5_isKind, T_X5_isNumber, T_X5_isAsked, T_X0_worth, T_X0_become, T_X0_add, T_X1_sewUp, i_const, i_lconst, i_iload, i_aload, i_lload, i_istore, i_astore, i_lstore, i_iinc, i_bin, i_div, i_un, i_i2l, i_l2i, i_lbin, i_lcmp, i_if, i_icmp, i_dup, i_dup_x1, i_dup2, i_pop, i_geti, i_getr, i_getd, i_puti, i_putz, i_putd, i_iald, i_bald, i_aald, i_iast, i_bast, i_alen, i_keep, i_ret, i_retz, i_reta, i_retl, i_retv, i_callv, i_callk, i_calls, i_mm, i_copy, i_under, i_undld, i_ldcs, i_sw, q_swc0, q_swc1, q_lg0, q_lg1, q_lent0, q_lent1, lset, lset2, q_lins0, q_lins1, q_ldel0, q_ldel1, q_ldel20, q_ldel21, q_lkeep0, q_lkeep1, q_memb0, q_memb1, cat2, Nat.reduceBEq, decide_true, decide_false, decide_eq_true_eq, cond_true, cond_false, Bool.and_true, Bool.and_false, Bool.true_and, Bool.false_and, f_iadd, f_isub, f_imul, f_ishl, f_ishr, f_iushr, f_iand, f_ior, f_idiv, f_irem, f_ineg, f_i2b, f_i2s, f_ladd, f_lmul, c_eq, c_ne, c_lt, c_ge, c_gt, c_le, cc_eq, cc_ne, cc_lt, cc_ge, cc_gt, cc_le, rfo, aof, csum, Value.category, List.take, List.drop, List.reverse, List.reverseAux, List.map, List.sum_cons, List.sum_nil, List.cons_append, List.nil_append, Option.toList, List.mem_cons, List.not_mem_nil, List.length_cons, List.length_nil, reduceIte, Nat.reduceEqDiff, Nat.reduceAdd, Nat.reduceLeDiff, Nat.reduceLT, a_day, Nat.zero_ne_one, Nat.one_ne_zero, false_and, and_false, true_and, and_true, or_false, false_or, or_true, true_or, not_true_eq_false, not_false_eq_true, Nat.zero_add, Nat.add_zero, Nat.le_refl, Nat.lt_irrefl, Nat.zero_lt_succ, Nat.zero_le, forall_const, List.cons.injEq, Value.int.injEq, Value.ref.injEq, Value.long.injEq, and_assoc, exists_and_left, exists_eq_left']
      try simp only [forall_eq]
      rw [show (16 : Int32) = nI 16 from rfl, nI_leI (by decide) (by omega)]
      refine ⟨fun z => ?_, fun z => ?_⟩
      · rw [nI_1]
        have : j = 16 - f := by omega
        subst this
        exact hK M1 hs hda
      · obtain ⟨a, b, hd⟩ := hda
        have so : okq g 1 (57 + N) := seam_ok (q := 52) (s := N) hg D52 (by omega)
        refine ⟨so.1, so.2.1, so, ?_⟩
        subst hB90
        unfold BX5_cut_90
        generalize hB97 : BX5_cut_97 g Q (T_X5_isKind g) (T_X5_isNumber g) (T_X5_isAsked g) (T_X0_worth g) (T_X0_become g) (T_X0_add g) (T_X1_sewUp g) K63 K74 = B97
        simp only [T_X5_isKind, T_X5_isNumber, T_X5_isAsked, T_X0_worth, T_X0_become, T_X0_add, T_X1_sewUp, i_const, i_lconst, i_iload, i_aload, i_lload, i_istore, i_astore, i_lstore, i_iinc, i_bin, i_div, i_un, i_i2l, i_l2i, i_lbin, i_lcmp, i_if, i_icmp, i_dup, i_dup_x1, i_dup2, i_pop, i_geti, i_getr, i_getd, i_puti, i_putz, i_putd, i_iald, i_bald, i_aald, i_iast, i_bast, i_alen, i_keep, i_ret, i_retz, i_reta, i_retl, i_retv, i_callv, i_callk, i_calls, i_mm, i_copy, i_under, i_undld, i_ldcs, i_sw, q_swc0, q_swc1, q_lg0, q_lg1, q_lent0, q_lent1, lset, lset2, q_lins0, q_lins1, q_ldel0, q_ldel1, q_ldel20, q_ldel21, q_lkeep0, q_lkeep1, q_memb0, q_memb1, cat2, Nat.reduceBEq, decide_true, decide_false, decide_eq_true_eq, cond_true, cond_false, Bool.and_true, Bool.and_false, Bool.true_and, Bool.false_and, f_iadd, f_isub, f_imul, f_ishl, f_ishr, f_iushr, f_iand, f_ior, f_idiv, f_irem, f_ineg, f_i2b, f_i2s, f_ladd, f_lmul, c_eq, c_ne, c_lt, c_ge, c_gt, c_le, cc_eq, cc_ne, cc_lt, cc_ge, cc_gt, cc_le, rfo, aof, csum, Value.category, List.take, List.drop, List.reverse, List.reverseAux, List.map, List.sum_cons, List.sum_nil, List.cons_append, List.nil_append, Option.toList, List.mem_cons, List.not_mem_nil, List.length_cons, List.length_nil, reduceIte, Nat.reduceEqDiff, Nat.reduceAdd, Nat.reduceLeDiff, Nat.reduceLT, a_day, Nat.zero_ne_one, Nat.one_ne_zero, false_and, and_false, true_and, and_true, or_false, false_or, or_true, true_or, not_true_eq_false, not_false_eq_true, Nat.zero_add, Nat.add_zero, Nat.le_refl, Nat.lt_irrefl, Nat.zero_lt_succ, Nat.zero_le, forall_const, List.cons.injEq, Value.int.injEq, Value.ref.injEq, Value.long.injEq, and_assoc, exists_and_left, exists_eq_left']
        try simp only [forall_eq]
        have hn1 : N < dn (dv M1 52) := by rw [hd, dn_addD (by omega)]; omega
        have hd2 : dv (mset (mset M1 (57 + N) 2 (nI f)) (57 + N) 3 (nI (f + j))) 52 = addD D k nu (nI f) (nI (f + j)) := by
          have d1 : dv (mset M1 (57 + N) 2 (nI f)) 52 = upF (dv M1 52) 3 N (nI f) := dv_set (q := 52) (j := 2) (by decide) hn1
          have hn2 : N < dn (dv (mset M1 (57 + N) 2 (nI f)) 52) := by rw [d1]; unfold dn; rw [upF_ne (by decide)]; exact hn1
          have d2 := dv_set (q := 52) (j := 3) (x := nI (f + j)) (by decide) hn2
          rw [d1, hd] at d2
          rw [← hN, addD_up] at d2
          rw [← hN]
          exact d2
        have hs2 : Sm YC M (mset (mset M1 (57 + N) 2 (nI f)) (57 + N) 3 (nI (f + j))) := (hs.set _ (Or.inl (Or.inl (by omega)))).set _ (Or.inl (Or.inl (by omega)))
        have hwf2 : wfD (addD D k nu (nI f) (nI (f + j))) Tn := wfD_add hwf (by omega) (isN_of (n := 5) (by decide) hcc.1.1) (isN_of (n := 9) (by decide) hcc.1.2) (by omega) (by omega)
        have ko := okC_to D52 hs2 hd2 hwf2 htx
        have kx : EQ X (xc (mset (mset M1 (57 + N) 2 (nI f)) (57 + N) 3 (nI (f + j)))) (addD D k nu (nI f) (nI (f + j))) := by
          have := (AG_C hs2 hT).eq hwf2
          rwa [hXe] at this
        refine ⟨c_0 hg, (c_52 hg).1, (c_52 hg).2.1, ko, fun M2 hs3 => ?_⟩
        have hw : wor (xc (mset (mset M1 (57 + N) 2 (nI f)) (57 + N) 3 (nI (f + j)))) (dv (mset (mset M1 (57 + N) 2 (nI f)) (57 + N) 3 (nI (f + j))) 52) = W f (f + j) := by rw [hd2, wor_e kx, ← hW]; rfl
        subst hB97
        unfold BX5_cut_97
        simp only [T_X5_isKind, T_X5_isNumber, T_X5_isAsked, T_X0_worth, T_X0_become, T_X0_add, T_X1_sewUp, i_const, i_lconst, i_iload, i_aload, i_lload, i_istore, i_astore, i_lstore, i_iinc, i_bin, i_div, i_un, i_i2l, i_l2i, i_lbin, i_lcmp, i_if, i_icmp, i_dup, i_dup_x1, i_dup2, i_pop, i_geti, i_getr, i_getd, i_puti, i_putz, i_putd, i_iald, i_bald, i_aald, i_iast, i_bast, i_alen, i_keep, i_ret, i_retz, i_reta, i_retl, i_retv, i_callv, i_callk, i_calls, i_mm, i_copy, i_under, i_undld, i_ldcs, i_sw, q_swc0, q_swc1, q_lg0, q_lg1, q_lent0, q_lent1, lset, lset2, q_lins0, q_lins1, q_ldel0, q_ldel1, q_ldel20, q_ldel21, q_lkeep0, q_lkeep1, q_memb0, q_memb1, cat2, Nat.reduceBEq, decide_true, decide_false, decide_eq_true_eq, cond_true, cond_false, Bool.and_true, Bool.and_false, Bool.true_and, Bool.false_and, f_iadd, f_isub, f_imul, f_ishl, f_ishr, f_iushr, f_iand, f_ior, f_idiv, f_irem, f_ineg, f_i2b, f_i2s, f_ladd, f_lmul, c_eq, c_ne, c_lt, c_ge, c_gt, c_le, cc_eq, cc_ne, cc_lt, cc_ge, cc_gt, cc_le, rfo, aof, csum, Value.category, List.take, List.drop, List.reverse, List.reverseAux, List.map, List.sum_cons, List.sum_nil, List.cons_append, List.nil_append, Option.toList, List.mem_cons, List.not_mem_nil, List.length_cons, List.length_nil, reduceIte, Nat.reduceEqDiff, Nat.reduceAdd, Nat.reduceLeDiff, Nat.reduceLT, a_day, Nat.zero_ne_one, Nat.one_ne_zero, false_and, and_false, true_and, and_true, or_false, false_or, or_true, true_or, not_true_eq_false, not_false_eq_true, Nat.zero_add, Nat.add_zero, Nat.le_refl, Nat.lt_irrefl, Nat.zero_lt_succ, Nat.zero_le, forall_const, List.cons.injEq, Value.int.injEq, Value.ref.injEq, Value.long.injEq, and_assoc, exists_and_left, exists_eq_left']
        try simp only [forall_eq]
        rw [hw, nI_1]
        have hd3 : dv M2 52 = addD D k nu (nI f) (nI (f + j)) := by rw [dv_C52 hs3 ko.n rfl]; exact hd2
        have fin : ∀ x y, (x, y) = cutI W f (j + 1) (cutO W f p0) → K74 [(0, .ref 0), (3, .int w), (4, .int x), (5, .int y), (6, .ref (57 + N)), (7, .int (nI f)), (8, .int (nI (f + j + 1)))] [] M2 := by
          intro x y hxy
          refine hK74 (16 - (f + (j + 1))) _ _ _ (by omega) ?_
          rw [hI74]
          exact ⟨f, j + 1, by rw [← hxy]; rfl, rfl, hf16, by omega, rfl, hs2.tr (hs3.mono fun a b q => Or.inl (XP_D q)), ⟨_, _, hd3⟩, hcc, hK⟩
        refine ⟨fun y => fin _ _ ?_, fun y => fin _ _ ?_⟩
        · simp only [cutI, cup]; rw [if_neg (i_not_lt.mpr y)]
        · simp only [cutI, cup]; rw [if_pos (i_not_le.mp y)]
    have L63 : Sj p l e 7 s m args below meth c 10 g (MQ below (cQc g Q) args s 0 0 (gA g)) 63 E63 := by
      rw [hE63]
      refine s_ex (s_loop I63 (fun K63 k63 => WX5_cut_63 C (t_X5_isKind hg) (by decide) (t_X5_isNumber hg) (by decide) (t_X5_isAsked hg) (by decide) (t_X0_worth hg) (by decide) (t_X0_become hg) (by decide) (t_X0_add hg) (by decide) (t_X1_sewUp hg) (by decide) k63 (L74 _ k63)) ?_)
      intro n lv st M1 K63 hK63 hI; rw [hI63] at hI; obtain ⟨f, rfl, rfl, hf16, rfl, hs, hda, hcc⟩ := hI
      generalize hE74 : (fun lv st M => ∃ n, I74 K63 n lv st M) = E74
      have iE74 : ∀ n lv st M, I74 K63 n lv st M → E74 lv st M := fun n lv st M h => by rw [← hE74]; exact ⟨n, h⟩
      unfold BX5_cut_63
      generalize hB132 : BX5_cut_132 g Q (T_X5_isKind g) (T_X5_isNumber g) (T_X5_isAsked g) (T_X0_worth g) (T_X0_become g) (T_X0_add g) (T_X1_sewUp g) K63 E74 = B132
      simp only [T_X5_isKind, T_X5_isNumber, T_X5_isAsked, T_X0_worth, T_X0_become, T_X0_add, T_X1_sewUp, i_const, i_lconst, i_iload, i_aload, i_lload, i_istore, i_astore, i_lstore, i_iinc, i_bin, i_div, i_un, i_i2l, i_l2i, i_lbin, i_lcmp, i_if, i_icmp, i_dup, i_dup_x1, i_dup2, i_pop, i_geti, i_getr, i_getd, i_puti, i_putz, i_putd, i_iald, i_bald, i_aald, i_iast, i_bast, i_alen, i_keep, i_ret, i_retz, i_reta, i_retl, i_retv, i_callv, i_callk, i_calls, i_mm, i_copy, i_under, i_undld, i_ldcs, i_sw, q_swc0, q_swc1, q_lg0, q_lg1, q_lent0, q_lent1, lset, lset2, q_lins0, q_lins1, q_ldel0, q_ldel1, q_ldel20, q_ldel21, q_lkeep0, q_lkeep1, q_memb0, q_memb1, cat2, Nat.reduceBEq, decide_true, decide_false, decide_eq_true_eq, cond_true, cond_false, Bool.and_true, Bool.and_false, Bool.true_and, Bool.false_and, f_iadd, f_isub, f_imul, f_ishl, f_ishr, f_iushr, f_iand, f_ior, f_idiv, f_irem, f_ineg, f_i2b, f_i2s, f_ladd, f_lmul, c_eq, c_ne, c_lt, c_ge, c_gt, c_le, cc_eq, cc_ne, cc_lt, cc_ge, cc_gt, cc_le, rfo, aof, csum, Value.category, List.take, List.drop, List.reverse, List.reverseAux, List.map, List.sum_cons, List.sum_nil, List.cons_append, List.nil_append, Option.toList, List.mem_cons, List.not_mem_nil, List.length_cons, List.length_nil, reduceIte, Nat.reduceEqDiff, Nat.reduceAdd, Nat.reduceLeDiff, Nat.reduceLT, a_day, Nat.zero_ne_one, Nat.one_ne_zero, false_and, and_false, true_and, and_true, or_false, false_or, or_true, true_or, not_true_eq_false, not_false_eq_true, Nat.zero_add, Nat.add_zero, Nat.le_refl, Nat.lt_irrefl, Nat.zero_lt_succ, Nat.zero_le, forall_const, List.cons.injEq, Value.int.injEq, Value.ref.injEq, Value.long.injEq, and_assoc, exists_and_left, exists_eq_left']
      try simp only [forall_eq]
      rw [show (16 : Int32) = nI 16 from rfl, nI_leI (by decide) (by omega)]
      refine ⟨fun z => ?_, fun z => ?_⟩
      · have : f = 16 := by omega
        subst this
        subst hB132
        unfold BX5_cut_132
        simp only [T_X5_isKind, T_X5_isNumber, T_X5_isAsked, T_X0_worth, T_X0_become, T_X0_add, T_X1_sewUp, i_const, i_lconst, i_iload, i_aload, i_lload, i_istore, i_astore, i_lstore, i_iinc, i_bin, i_div, i_un, i_i2l, i_l2i, i_lbin, i_lcmp, i_if, i_icmp, i_dup, i_dup_x1, i_dup2, i_pop, i_geti, i_getr, i_getd, i_puti, i_putz, i_putd, i_iald, i_bald, i_aald, i_iast, i_bast, i_alen, i_keep, i_ret, i_retz, i_reta, i_retl, i_retv, i_callv, i_callk, i_calls, i_mm, i_copy, i_under, i_undld, i_ldcs, i_sw, q_swc0, q_swc1, q_lg0, q_lg1, q_lent0, q_lent1, lset, lset2, q_lins0, q_lins1, q_ldel0, q_ldel1, q_ldel20, q_ldel21, q_lkeep0, q_lkeep1, q_memb0, q_memb1, cat2, Nat.reduceBEq, decide_true, decide_false, decide_eq_true_eq, cond_true, cond_false, Bool.and_true, Bool.and_false, Bool.true_and, Bool.false_and, f_iadd, f_isub, f_imul, f_ishl, f_ishr, f_iushr, f_iand, f_ior, f_idiv, f_irem, f_ineg, f_i2b, f_i2s, f_ladd, f_lmul, c_eq, c_ne, c_lt, c_ge, c_gt, c_le, cc_eq, cc_ne, cc_lt, cc_ge, cc_gt, cc_le, rfo, aof, csum, Value.category, List.take, List.drop, List.reverse, List.reverseAux, List.map, List.sum_cons, List.sum_nil, List.cons_append, List.nil_append, Option.toList, List.mem_cons, List.not_mem_nil, List.length_cons, List.length_nil, reduceIte, Nat.reduceEqDiff, Nat.reduceAdd, Nat.reduceLeDiff, Nat.reduceLT, a_day, Nat.zero_ne_one, Nat.one_ne_zero, false_and, and_false, true_and, and_true, or_false, false_or, or_true, true_or, not_true_eq_false, not_false_eq_true, Nat.zero_add, Nat.add_zero, Nat.le_refl, Nat.lt_irrefl, Nat.zero_lt_succ, Nat.zero_le, forall_const, List.cons.injEq, Value.int.injEq, Value.ref.injEq, Value.long.injEq, and_assoc, exists_and_left, exists_eq_left']
        try simp only [forall_eq]
        have hfin := hc hcc M1 hs
        unfold sel at hfin
        refine ⟨fun y => ?_, fun y => ?_⟩
        · rwa [if_neg y] at hfin
        · rwa [if_pos (Decidable.not_not.mp y)] at hfin
      · refine iE74 (16 - (f + 0)) _ _ _ ?_
        rw [hI74]
        refine ⟨f, 0, rfl, rfl, by omega, by omega, rfl, hs, hda, hcc, fun M2 hc2 hd2 => ?_⟩
        refine hK63 (16 - (f + 1)) _ _ _ (by omega) ?_
        rw [hI63]
        exact ⟨f + 1, rfl, rfl, by omega, rfl, hc2, hd2, hcc⟩
    refine s_of (fun lv st M0 hs => ?_) (WX5_cut_0 C (t_X5_isKind hg) (by decide) (t_X5_isNumber hg) (by decide) (t_X5_isAsked hg) (by decide) (t_X0_worth hg) (by decide) (t_X0_become hg) (by decide) (t_X0_add hg) (by decide) (t_X1_sewUp hg) (by decide) L63 s_F)
    obtain ⟨rfl, rfl, rfl⟩ := hs
    unfold BX5_cut_0
    generalize hB4 : BX5_cut_4 g Q (T_X5_isKind g) (T_X5_isNumber g) (T_X5_isAsked g) (T_X0_worth g) (T_X0_become g) (T_X0_add g) (T_X1_sewUp g) E63 (fun _ _ _ => False) = B4
    simp only [T_X5_isKind, T_X5_isNumber, T_X5_isAsked, T_X0_worth, T_X0_become, T_X0_add, T_X1_sewUp, i_const, i_lconst, i_iload, i_aload, i_lload, i_istore, i_astore, i_lstore, i_iinc, i_bin, i_div, i_un, i_i2l, i_l2i, i_lbin, i_lcmp, i_if, i_icmp, i_dup, i_dup_x1, i_dup2, i_pop, i_geti, i_getr, i_getd, i_puti, i_putz, i_putd, i_iald, i_bald, i_aald, i_iast, i_bast, i_alen, i_keep, i_ret, i_retz, i_reta, i_retl, i_retv, i_callv, i_callk, i_calls, i_mm, i_copy, i_under, i_undld, i_ldcs, i_sw, q_swc0, q_swc1, q_lg0, q_lg1, q_lent0, q_lent1, lset, lset2, q_lins0, q_lins1, q_ldel0, q_ldel1, q_ldel20, q_ldel21, q_lkeep0, q_lkeep1, q_memb0, q_memb1, cat2, Nat.reduceBEq, decide_true, decide_false, decide_eq_true_eq, cond_true, cond_false, Bool.and_true, Bool.and_false, Bool.true_and, Bool.false_and, f_iadd, f_isub, f_imul, f_ishl, f_ishr, f_iushr, f_iand, f_ior, f_idiv, f_irem, f_ineg, f_i2b, f_i2s, f_ladd, f_lmul, c_eq, c_ne, c_lt, c_ge, c_gt, c_le, cc_eq, cc_ne, cc_lt, cc_ge, cc_gt, cc_le, rfo, aof, csum, Value.category, List.take, List.drop, List.reverse, List.reverseAux, List.map, List.sum_cons, List.sum_nil, List.cons_append, List.nil_append, Option.toList, List.mem_cons, List.not_mem_nil, List.length_cons, List.length_nil, reduceIte, Nat.reduceEqDiff, Nat.reduceAdd, Nat.reduceLeDiff, Nat.reduceLT, a_day, Nat.zero_ne_one, Nat.one_ne_zero, false_and, and_false, true_and, and_true, or_false, false_or, or_true, true_or, not_true_eq_false, not_false_eq_true, Nat.zero_add, Nat.add_zero, Nat.le_refl, Nat.lt_irrefl, Nat.zero_lt_succ, Nat.zero_le, forall_const, List.cons.injEq, Value.int.injEq, Value.ref.injEq, Value.long.injEq, and_assoc, exists_and_left, exists_eq_left']
    try simp only [forall_eq]
    subst hB4
    unfold BX5_cut_4
    generalize hB11 : BX5_cut_11 g Q (T_X5_isKind g) (T_X5_isNumber g) (T_X5_isAsked g) (T_X0_worth g) (T_X0_become g) (T_X0_add g) (T_X1_sewUp g) E63 (fun _ _ _ => False) = B11
    simp only [T_X5_isKind, T_X5_isNumber, T_X5_isAsked, T_X0_worth, T_X0_become, T_X0_add, T_X1_sewUp, i_const, i_lconst, i_iload, i_aload, i_lload, i_istore, i_astore, i_lstore, i_iinc, i_bin, i_div, i_un, i_i2l, i_l2i, i_lbin, i_lcmp, i_if, i_icmp, i_dup, i_dup_x1, i_dup2, i_pop, i_geti, i_getr, i_getd, i_puti, i_putz, i_putd, i_iald, i_bald, i_aald, i_iast, i_bast, i_alen, i_keep, i_ret, i_retz, i_reta, i_retl, i_retv, i_callv, i_callk, i_calls, i_mm, i_copy, i_under, i_undld, i_ldcs, i_sw, q_swc0, q_swc1, q_lg0, q_lg1, q_lent0, q_lent1, lset, lset2, q_lins0, q_lins1, q_ldel0, q_ldel1, q_ldel20, q_ldel21, q_lkeep0, q_lkeep1, q_memb0, q_memb1, cat2, Nat.reduceBEq, decide_true, decide_false, decide_eq_true_eq, cond_true, cond_false, Bool.and_true, Bool.and_false, Bool.true_and, Bool.false_and, f_iadd, f_isub, f_imul, f_ishl, f_ishr, f_iushr, f_iand, f_ior, f_idiv, f_irem, f_ineg, f_i2b, f_i2s, f_ladd, f_lmul, c_eq, c_ne, c_lt, c_ge, c_gt, c_le, cc_eq, cc_ne, cc_lt, cc_ge, cc_gt, cc_le, rfo, aof, csum, Value.category, List.take, List.drop, List.reverse, List.reverseAux, List.map, List.sum_cons, List.sum_nil, List.cons_append, List.nil_append, Option.toList, List.mem_cons, List.not_mem_nil, List.length_cons, List.length_nil, reduceIte, Nat.reduceEqDiff, Nat.reduceAdd, Nat.reduceLeDiff, Nat.reduceLT, a_day, Nat.zero_ne_one, Nat.one_ne_zero, false_and, and_false, true_and, and_true, or_false, false_or, or_true, true_or, not_true_eq_false, not_false_eq_true, Nat.zero_add, Nat.add_zero, Nat.le_refl, Nat.lt_irrefl, Nat.zero_lt_succ, Nat.zero_le, forall_const, List.cons.injEq, Value.int.injEq, Value.ref.injEq, Value.long.injEq, and_assoc, exists_and_left, exists_eq_left']
    try simp only [forall_eq]
    refine ⟨fun z => hf (fun q => b2n z ⟨q.1.1.1, (le5 k).mpr q.1.1.2⟩), fun z1 => ?_⟩
    subst hB11
    unfold BX5_cut_11
    generalize hB18 : BX5_cut_18 g Q (T_X5_isKind g) (T_X5_isNumber g) (T_X5_isAsked g) (T_X0_worth g) (T_X0_become g) (T_X0_add g) (T_X1_sewUp g) E63 (fun _ _ _ => False) = B18
    simp only [T_X5_isKind, T_X5_isNumber, T_X5_isAsked, T_X0_worth, T_X0_become, T_X0_add, T_X1_sewUp, i_const, i_lconst, i_iload, i_aload, i_lload, i_istore, i_astore, i_lstore, i_iinc, i_bin, i_div, i_un, i_i2l, i_l2i, i_lbin, i_lcmp, i_if, i_icmp, i_dup, i_dup_x1, i_dup2, i_pop, i_geti, i_getr, i_getd, i_puti, i_putz, i_putd, i_iald, i_bald, i_aald, i_iast, i_bast, i_alen, i_keep, i_ret, i_retz, i_reta, i_retl, i_retv, i_callv, i_callk, i_calls, i_mm, i_copy, i_under, i_undld, i_ldcs, i_sw, q_swc0, q_swc1, q_lg0, q_lg1, q_lent0, q_lent1, lset, lset2, q_lins0, q_lins1, q_ldel0, q_ldel1, q_ldel20, q_ldel21, q_lkeep0, q_lkeep1, q_memb0, q_memb1, cat2, Nat.reduceBEq, decide_true, decide_false, decide_eq_true_eq, cond_true, cond_false, Bool.and_true, Bool.and_false, Bool.true_and, Bool.false_and, f_iadd, f_isub, f_imul, f_ishl, f_ishr, f_iushr, f_iand, f_ior, f_idiv, f_irem, f_ineg, f_i2b, f_i2s, f_ladd, f_lmul, c_eq, c_ne, c_lt, c_ge, c_gt, c_le, cc_eq, cc_ne, cc_lt, cc_ge, cc_gt, cc_le, rfo, aof, csum, Value.category, List.take, List.drop, List.reverse, List.reverseAux, List.map, List.sum_cons, List.sum_nil, List.cons_append, List.nil_append, Option.toList, List.mem_cons, List.not_mem_nil, List.length_cons, List.length_nil, reduceIte, Nat.reduceEqDiff, Nat.reduceAdd, Nat.reduceLeDiff, Nat.reduceLT, a_day, Nat.zero_ne_one, Nat.one_ne_zero, false_and, and_false, true_and, and_true, or_false, false_or, or_true, true_or, not_true_eq_false, not_false_eq_true, Nat.zero_add, Nat.add_zero, Nat.le_refl, Nat.lt_irrefl, Nat.zero_lt_succ, Nat.zero_le, forall_const, List.cons.injEq, Value.int.injEq, Value.ref.injEq, Value.long.injEq, and_assoc, exists_and_left, exists_eq_left']
    try simp only [forall_eq]
    refine ⟨fun z => hf (fun q => b2n z q.1.2), fun z2 => ?_⟩
    subst hB18
    unfold BX5_cut_18
    generalize hB31 : BX5_cut_31 g Q (T_X5_isKind g) (T_X5_isNumber g) (T_X5_isAsked g) (T_X0_worth g) (T_X0_become g) (T_X0_add g) (T_X1_sewUp g) E63 (fun _ _ _ => False) = B31
    simp only [T_X5_isKind, T_X5_isNumber, T_X5_isAsked, T_X0_worth, T_X0_become, T_X0_add, T_X1_sewUp, i_const, i_lconst, i_iload, i_aload, i_lload, i_istore, i_astore, i_lstore, i_iinc, i_bin, i_div, i_un, i_i2l, i_l2i, i_lbin, i_lcmp, i_if, i_icmp, i_dup, i_dup_x1, i_dup2, i_pop, i_geti, i_getr, i_getd, i_puti, i_putz, i_putd, i_iald, i_bald, i_aald, i_iast, i_bast, i_alen, i_keep, i_ret, i_retz, i_reta, i_retl, i_retv, i_callv, i_callk, i_calls, i_mm, i_copy, i_under, i_undld, i_ldcs, i_sw, q_swc0, q_swc1, q_lg0, q_lg1, q_lent0, q_lent1, lset, lset2, q_lins0, q_lins1, q_ldel0, q_ldel1, q_ldel20, q_ldel21, q_lkeep0, q_lkeep1, q_memb0, q_memb1, cat2, Nat.reduceBEq, decide_true, decide_false, decide_eq_true_eq, cond_true, cond_false, Bool.and_true, Bool.and_false, Bool.true_and, Bool.false_and, f_iadd, f_isub, f_imul, f_ishl, f_ishr, f_iushr, f_iand, f_ior, f_idiv, f_irem, f_ineg, f_i2b, f_i2s, f_ladd, f_lmul, c_eq, c_ne, c_lt, c_ge, c_gt, c_le, cc_eq, cc_ne, cc_lt, cc_ge, cc_gt, cc_le, rfo, aof, csum, Value.category, List.take, List.drop, List.reverse, List.reverseAux, List.map, List.sum_cons, List.sum_nil, List.cons_append, List.nil_append, Option.toList, List.mem_cons, List.not_mem_nil, List.length_cons, List.length_nil, reduceIte, Nat.reduceEqDiff, Nat.reduceAdd, Nat.reduceLeDiff, Nat.reduceLT, a_day, Nat.zero_ne_one, Nat.one_ne_zero, false_and, and_false, true_and, and_true, or_false, false_or, or_true, true_or, not_true_eq_false, not_false_eq_true, Nat.zero_add, Nat.add_zero, Nat.le_refl, Nat.lt_irrefl, Nat.zero_lt_succ, Nat.zero_le, forall_const, List.cons.injEq, Value.int.injEq, Value.ref.injEq, Value.long.injEq, and_assoc, exists_and_left, exists_eq_left']
    try simp only [forall_eq]
    refine ⟨fun z3 => ?_, fun z => hf (fun q => b2n (Decidable.not_not.mp z) q.2)⟩
    have ck : 0 ≤ k ∧ k ≤ 5 := ⟨(b2t z1).1, (le5 k).mp (b2t z1).2⟩
    refine ⟨c_0 hg, (c_40 hg).1, (c_40 hg).2.1, ho, fun M1 hs1 => ?_⟩
    subst hB31
    unfold BX5_cut_31
    generalize hB47 : BX5_cut_47 g Q (T_X5_isKind g) (T_X5_isNumber g) (T_X5_isAsked g) (T_X0_worth g) (T_X0_become g) (T_X0_add g) (T_X1_sewUp g) E63 (fun _ _ _ => False) = B47
    simp only [T_X5_isKind, T_X5_isNumber, T_X5_isAsked, T_X0_worth, T_X0_become, T_X0_add, T_X1_sewUp, i_const, i_lconst, i_iload, i_aload, i_lload, i_istore, i_astore, i_lstore, i_iinc, i_bin, i_div, i_un, i_i2l, i_l2i, i_lbin, i_lcmp, i_if, i_icmp, i_dup, i_dup_x1, i_dup2, i_pop, i_geti, i_getr, i_getd, i_puti, i_putz, i_putd, i_iald, i_bald, i_aald, i_iast, i_bast, i_alen, i_keep, i_ret, i_retz, i_reta, i_retl, i_retv, i_callv, i_callk, i_calls, i_mm, i_copy, i_under, i_undld, i_ldcs, i_sw, q_swc0, q_swc1, q_lg0, q_lg1, q_lent0, q_lent1, lset, lset2, q_lins0, q_lins1, q_ldel0, q_ldel1, q_ldel20, q_ldel21, q_lkeep0, q_lkeep1, q_memb0, q_memb1, cat2, Nat.reduceBEq, decide_true, decide_false, decide_eq_true_eq, cond_true, cond_false, Bool.and_true, Bool.and_false, Bool.true_and, Bool.false_and, f_iadd, f_isub, f_imul, f_ishl, f_ishr, f_iushr, f_iand, f_ior, f_idiv, f_irem, f_ineg, f_i2b, f_i2s, f_ladd, f_lmul, c_eq, c_ne, c_lt, c_ge, c_gt, c_le, cc_eq, cc_ne, cc_lt, cc_ge, cc_gt, cc_le, rfo, aof, csum, Value.category, List.take, List.drop, List.reverse, List.reverseAux, List.map, List.sum_cons, List.sum_nil, List.cons_append, List.nil_append, Option.toList, List.mem_cons, List.not_mem_nil, List.length_cons, List.length_nil, reduceIte, Nat.reduceEqDiff, Nat.reduceAdd, Nat.reduceLeDiff, Nat.reduceLT, a_day, Nat.zero_ne_one, Nat.one_ne_zero, false_and, and_false, true_and, and_true, or_false, false_or, or_true, true_or, not_true_eq_false, not_false_eq_true, Nat.zero_add, Nat.add_zero, Nat.le_refl, Nat.lt_irrefl, Nat.zero_lt_succ, Nat.zero_le, forall_const, List.cons.injEq, Value.int.injEq, Value.ref.injEq, Value.long.injEq, and_assoc, exists_and_left, exists_eq_left']
    try simp only [forall_eq]
    have ho1 : okD M1 40 := ho.P D40 hs1
    have hd1 : dv M1 40 = D := by rw [← hDe]; exact dv_P hs1 D40 D40 (by rw [hDe]; omega)
    refine ⟨c_0 hg, c_0 hg, (c_52 hg).1, (c_52 hg).2.1, D52, ho1, fun M2 hs2 hd2 => ?_⟩
    rw [hd1] at hd2
    have e6 : M2 52 6 = nI (dn (dv M2 52)) := by
      have : dv M2 52 7 0 = D 7 0 := by rw [hd2]
      rw [hd2]; exact this.trans hwf.1
    subst hB47
    unfold BX5_cut_47
    generalize hB58 : BX5_cut_58 g Q (T_X5_isKind g) (T_X5_isNumber g) (T_X5_isAsked g) (T_X0_worth g) (T_X0_become g) (T_X0_add g) (T_X1_sewUp g) E63 (fun _ _ _ => False) = B58
    simp only [T_X5_isKind, T_X5_isNumber, T_X5_isAsked, T_X0_worth, T_X0_become, T_X0_add, T_X1_sewUp, i_const, i_lconst, i_iload, i_aload, i_lload, i_istore, i_astore, i_lstore, i_iinc, i_bin, i_div, i_un, i_i2l, i_l2i, i_lbin, i_lcmp, i_if, i_icmp, i_dup, i_dup_x1, i_dup2, i_pop, i_geti, i_getr, i_getd, i_puti, i_putz, i_putd, i_iald, i_bald, i_aald, i_iast, i_bast, i_alen, i_keep, i_ret, i_retz, i_reta, i_retl, i_retv, i_callv, i_callk, i_calls, i_mm, i_copy, i_under, i_undld, i_ldcs, i_sw, q_swc0, q_swc1, q_lg0, q_lg1, q_lent0, q_lent1, lset, lset2, q_lins0, q_lins1, q_ldel0, q_ldel1, q_ldel20, q_ldel21, q_lkeep0, q_lkeep1, q_memb0, q_memb1, cat2, Nat.reduceBEq, decide_true, decide_false, decide_eq_true_eq, cond_true, cond_false, Bool.and_true, Bool.and_false, Bool.true_and, Bool.false_and, f_iadd, f_isub, f_imul, f_ishl, f_ishr, f_iushr, f_iand, f_ior, f_idiv, f_irem, f_ineg, f_i2b, f_i2s, f_ladd, f_lmul, c_eq, c_ne, c_lt, c_ge, c_gt, c_le, cc_eq, cc_ne, cc_lt, cc_ge, cc_gt, cc_le, rfo, aof, csum, Value.category, List.take, List.drop, List.reverse, List.reverseAux, List.map, List.sum_cons, List.sum_nil, List.cons_append, List.nil_append, Option.toList, List.mem_cons, List.not_mem_nil, List.length_cons, List.length_nil, reduceIte, Nat.reduceEqDiff, Nat.reduceAdd, Nat.reduceLeDiff, Nat.reduceLT, a_day, Nat.zero_ne_one, Nat.one_ne_zero, false_and, and_false, true_and, and_true, or_false, false_or, or_true, true_or, not_true_eq_false, not_false_eq_true, Nat.zero_add, Nat.add_zero, Nat.le_refl, Nat.lt_irrefl, Nat.zero_lt_succ, Nat.zero_le, forall_const, List.cons.injEq, Value.int.injEq, Value.ref.injEq, Value.long.injEq, and_assoc, exists_and_left, exists_eq_left']
    try simp only [forall_eq]
    refine ⟨c_0 hg, (c_52 hg).1, (c_52 hg).2.1, D52, e6, by rw [hd2]; exact hn, fun M3 hs3 hd3 => ?_⟩
    rw [hd2] at hd3 ⊢
    rw [hN]
    subst hB58
    unfold BX5_cut_58
    simp only [T_X5_isKind, T_X5_isNumber, T_X5_isAsked, T_X0_worth, T_X0_become, T_X0_add, T_X1_sewUp, i_const, i_lconst, i_iload, i_aload, i_lload, i_istore, i_astore, i_lstore, i_iinc, i_bin, i_div, i_un, i_i2l, i_l2i, i_lbin, i_lcmp, i_if, i_icmp, i_dup, i_dup_x1, i_dup2, i_pop, i_geti, i_getr, i_getd, i_puti, i_putz, i_putd, i_iald, i_bald, i_aald, i_iast, i_bast, i_alen, i_keep, i_ret, i_retz, i_reta, i_retl, i_retv, i_callv, i_callk, i_calls, i_mm, i_copy, i_under, i_undld, i_ldcs, i_sw, q_swc0, q_swc1, q_lg0, q_lg1, q_lent0, q_lent1, lset, lset2, q_lins0, q_lins1, q_ldel0, q_ldel1, q_ldel20, q_ldel21, q_lkeep0, q_lkeep1, q_memb0, q_memb1, cat2, Nat.reduceBEq, decide_true, decide_false, decide_eq_true_eq, cond_true, cond_false, Bool.and_true, Bool.and_false, Bool.true_and, Bool.false_and, f_iadd, f_isub, f_imul, f_ishl, f_ishr, f_iushr, f_iand, f_ior, f_idiv, f_irem, f_ineg, f_i2b, f_i2s, f_ladd, f_lmul, c_eq, c_ne, c_lt, c_ge, c_gt, c_le, cc_eq, cc_ne, cc_lt, cc_ge, cc_gt, cc_le, rfo, aof, csum, Value.category, List.take, List.drop, List.reverse, List.reverseAux, List.map, List.sum_cons, List.sum_nil, List.cons_append, List.nil_append, Option.toList, List.mem_cons, List.not_mem_nil, List.length_cons, List.length_nil, reduceIte, Nat.reduceEqDiff, Nat.reduceAdd, Nat.reduceLeDiff, Nat.reduceLT, a_day, Nat.zero_ne_one, Nat.one_ne_zero, false_and, and_false, true_and, and_true, or_false, false_or, or_true, true_or, not_true_eq_false, not_false_eq_true, Nat.zero_add, Nat.add_zero, Nat.le_refl, Nat.lt_irrefl, Nat.zero_lt_succ, Nat.zero_le, forall_const, List.cons.injEq, Value.int.injEq, Value.ref.injEq, Value.long.injEq, and_assoc, exists_and_left, exists_eq_left']
    try simp only [forall_eq]
    refine iE63 (16 - 0) _ _ _ ?_
    rw [hI63]
    exact ⟨0, by rw [← hp0, hDe, hXe]; rfl, rfl, by omega, rfl, (Sm_YC40 hs1).tr ((Sm_YC hs2).tr (Sm_YC hs3)), ⟨_, _, hd3⟩, ⟨ck, b2t z2⟩, b2t z3⟩
def T_X5_unpick (g : WG) (as : List Value) (M : MM) (Q : Option Value → MM → Prop) : Prop := ∃ w, as = [.ref 0, .int w] ∧ okD M 40 ∧ ∀ M', Sm YC M M' → Q (some (.int (unpA (xc M) (dv M 40) w))) M'
set_option maxRecDepth 100000 in
set_option maxHeartbeats 2000000 in
theorem t_X5_unpick {l : Launch} {g : WG} (hg : Full g) : Ct l g yX5_unpick cX5_unpick 7 ((Option.some FieldType.int)) 7 (T_X5_unpick g) := by
  refine Ct.of (by decide) (fun as M Q h => ?_) (fun p e s m args below meth c as M Q h C => ?_)
  · obtain ⟨w, rfl, ho, h⟩ := h; exact ⟨by simp, by simp [Value.category]⟩
  · obtain ⟨w, rfl, ho, h⟩ := h
    have hn := ho.n
    have hmany := ho.many
    obtain ⟨-, Tn, hwf, htx⟩ := id ho
    obtain ⟨D, hDe⟩ : ∃ D, dv M 40 = D := ⟨_, rfl⟩
    obtain ⟨X, hXe⟩ : ∃ X, xc M = X := ⟨_, rfl⟩
    rw [hDe] at hn hwf hmany
    rw [hDe, hXe] at h
    have hT := hwf.2.2.2.2
    have hc := fun (c1 : 0 ≤ w ∧ w ≤ 1) M' hs => by
      have := h M' hs
      rwa [unpA, if_pos c1] at this
    have hf := fun (c1 : ¬ (0 ≤ w ∧ w ≤ 1)) => by
      have := h M Sm.rf
      rwa [unpA, if_neg c1] at this
    obtain ⟨I34, hI34⟩ : ∃ I : Nat → PP, I = (fun n lv st M' => ∃ k, lv = [(0, .ref 0), (1, .int w), (2, .int (unpN X D k).1), (3, .int (unpN X D k).2), (4, .int (nI k))] ∧ st = [] ∧ k ≤ dn D ∧ n = dn D - k ∧ Sm YC M M' ∧ dv M' 52 = D ∧ 0 ≤ w ∧ w ≤ 1) := ⟨_, rfl⟩
    obtain ⟨E34, hE34⟩ : ∃ E : PP, E = (fun lv st M => ∃ n, I34 n lv st M) := ⟨_, rfl⟩
    have iE34 : ∀ n lv st M, I34 n lv st M → E34 lv st M := fun n lv st M h => by rw [hE34]; exact ⟨n, h⟩
    have L34 : Sj p l e 7 s m args below meth c 7 g (MQ below (cQc g Q) args s 0 0 (gA g)) 34 E34 := by
      rw [hE34]
      refine s_ex (s_loop I34 (fun K34 k34 => WX5_unpick_34 C (t_X5_isAsked hg) (by decide) (t_X0_worth hg) (by decide) (t_X0_become hg) (by decide) k34) ?_)
      intro n lv st M1 K34 hK34 hI; rw [hI34] at hI; obtain ⟨k, rfl, rfl, hk, rfl, hs, hd, hcc⟩ := hI
      unfold BX5_unpick_34
      generalize hB79 : BX5_unpick_79 g Q (T_X5_isAsked g) (T_X0_worth g) (T_X0_become g) K34 = B79
      generalize hB105 : BX5_unpick_105 g Q (T_X5_isAsked g) (T_X0_worth g) (T_X0_become g) K34 = B105
      simp only [T_X5_isAsked, T_X0_worth, T_X0_become, i_const, i_lconst, i_iload, i_aload, i_lload, i_istore, i_astore, i_lstore, i_iinc, i_bin, i_div, i_un, i_i2l, i_l2i, i_lbin, i_lcmp, i_if, i_icmp, i_dup, i_dup_x1, i_dup2, i_pop, i_geti, i_getr, i_getd, i_puti, i_putz, i_putd, i_iald, i_bald, i_aald, i_iast, i_bast, i_alen, i_keep, i_ret, i_retz, i_reta, i_retl, i_retv, i_callv, i_callk, i_calls, i_mm, i_copy, i_under, i_undld, i_ldcs, i_sw, q_swc0, q_swc1, q_lg0, q_lg1, q_lent0, q_lent1, lset, lset2, q_lins0, q_lins1, q_ldel0, q_ldel1, q_ldel20, q_ldel21, q_lkeep0, q_lkeep1, q_memb0, q_memb1, cat2, Nat.reduceBEq, decide_true, decide_false, decide_eq_true_eq, cond_true, cond_false, Bool.and_true, Bool.and_false, Bool.true_and, Bool.false_and, f_iadd, f_isub, f_imul, f_ishl, f_ishr, f_iushr, f_iand, f_ior, f_idiv, f_irem, f_ineg, f_i2b, f_i2s, f_ladd, f_lmul, c_eq, c_ne, c_lt, c_ge, c_gt, c_le, cc_eq, cc_ne, cc_lt, cc_ge, cc_gt, cc_le, rfo, aof, csum, Value.category, List.take, List.drop, List.reverse, List.reverseAux, List.map, List.sum_cons, List.sum_nil, List.cons_append, List.nil_append, Option.toList, List.mem_cons, List.not_mem_nil, List.length_cons, List.length_nil, reduceIte, Nat.reduceEqDiff, Nat.reduceAdd, Nat.reduceLeDiff, Nat.reduceLT, a_day, Nat.zero_ne_one, Nat.one_ne_zero, false_and, and_false, true_and, and_true, or_false, false_or, or_true, true_or, not_true_eq_false, not_false_eq_true, Nat.zero_add, Nat.add_zero, Nat.le_refl, Nat.lt_irrefl, Nat.zero_lt_succ, Nat.zero_le, forall_const, List.cons.injEq, Value.int.injEq, Value.ref.injEq, Value.long.injEq, and_assoc, exists_and_left, exists_eq_left']
      try simp only [forall_eq]
      have e6 : M1 52 6 = nI (dn D) := by
        have : dv M1 52 7 0 = D 7 0 := by rw [hd]
        exact this.trans hwf.1
      rw [e6, nI_leI (by omega) (by omega), nI_clamp (by omega)]
      refine ⟨c_0 hg, c_52 hg, fun z => ?_, fun z => ?_⟩
      · have : k = dn D := by omega
        subst this
        subst hB105
        unfold BX5_unpick_105
        simp only [T_X5_isAsked, T_X0_worth, T_X0_become, i_const, i_lconst, i_iload, i_aload, i_lload, i_istore, i_astore, i_lstore, i_iinc, i_bin, i_div, i_un, i_i2l, i_l2i, i_lbin, i_lcmp, i_if, i_icmp, i_dup, i_dup_x1, i_dup2, i_pop, i_geti, i_getr, i_getd, i_puti, i_putz, i_putd, i_iald, i_bald, i_aald, i_iast, i_bast, i_alen, i_keep, i_ret, i_retz, i_reta, i_retl, i_retv, i_callv, i_callk, i_calls, i_mm, i_copy, i_under, i_undld, i_ldcs, i_sw, q_swc0, q_swc1, q_lg0, q_lg1, q_lent0, q_lent1, lset, lset2, q_lins0, q_lins1, q_ldel0, q_ldel1, q_ldel20, q_ldel21, q_lkeep0, q_lkeep1, q_memb0, q_memb1, cat2, Nat.reduceBEq, decide_true, decide_false, decide_eq_true_eq, cond_true, cond_false, Bool.and_true, Bool.and_false, Bool.true_and, Bool.false_and, f_iadd, f_isub, f_imul, f_ishl, f_ishr, f_iushr, f_iand, f_ior, f_idiv, f_irem, f_ineg, f_i2b, f_i2s, f_ladd, f_lmul, c_eq, c_ne, c_lt, c_ge, c_gt, c_le, cc_eq, cc_ne, cc_lt, cc_ge, cc_gt, cc_le, rfo, aof, csum, Value.category, List.take, List.drop, List.reverse, List.reverseAux, List.map, List.sum_cons, List.sum_nil, List.cons_append, List.nil_append, Option.toList, List.mem_cons, List.not_mem_nil, List.length_cons, List.length_nil, reduceIte, Nat.reduceEqDiff, Nat.reduceAdd, Nat.reduceLeDiff, Nat.reduceLT, a_day, Nat.zero_ne_one, Nat.one_ne_zero, false_and, and_false, true_and, and_true, or_false, false_or, or_true, true_or, not_true_eq_false, not_false_eq_true, Nat.zero_add, Nat.add_zero, Nat.le_refl, Nat.lt_irrefl, Nat.zero_lt_succ, Nat.zero_le, forall_const, List.cons.injEq, Value.int.injEq, Value.ref.injEq, Value.long.injEq, and_assoc, exists_and_left, exists_eq_left']
        try simp only [forall_eq]
        have hfin := hc hcc M1 hs
        unfold sel at hfin
        refine ⟨fun y => ?_, fun y => ?_⟩
        · rwa [if_neg y] at hfin
        · rwa [if_pos (Decidable.not_not.mp y)] at hfin
      · have hlt : k < dn D := by omega
        have so : okq g 1 (57 + k) := seam_ok (q := 52) (s := k) hg D52 (by omega)
        have hlt1 : k < dn (dv M1 52) := by rw [hd]; exact hlt
        have k5 : M1 (57 + k) 5 = D 6 k := by rw [← hd]; exact (dv_s (q := 52) 5 (by decide) hlt1).symm
        have fin : ∀ x y M2, Sm YC M M2 → dv M2 52 = D → (x, y) = unpN X D (k + 1) → K34 [(0, .ref 0), (1, .int w), (2, .int x), (3, .int y), (4, .int (nI (k + 1)))] [] M2 := by
          intro x y M2 hs2 hd2 hxy
          refine hK34 (dn D - (k + 1)) _ _ _ (by omega) ?_
          rw [hI34]
          exact ⟨k + 1, by rw [← hxy], rfl, by omega, rfl, hs2, hd2, hcc⟩
        rw [k5, nI_1]
        refine ⟨c_0 hg, c_52 hg, okR hg (by decide) (by decide) rfl, vp_in_nI (n := k) (N := 7) (by omega) (by decide), so, fun y => fin _ _ M1 hs hd ?_, fun y => ?_⟩
        · simp only [unpN]; rw [if_neg y]
        · have y := Decidable.not_not.mp y
          have hd2 : dv (mset M1 (57 + k) 5 1) 52 = upF D 6 k 1 := by rw [← hd]; exact dv_set (q := 52) (j := 5) (by decide) hlt1
          have hs2 : Sm YC M (mset M1 (57 + k) 5 1) := hs.set _ (Or.inl (Or.inl (by omega)))
          have hwf2 := wfD_up6 (k := k) hwf (Or.inr (rfl : (1 : Int32) = 1))
          have ko := okC_to D52 hs2 hd2 hwf2 htx
          have kx : EQ X (xc (mset M1 (57 + k) 5 1)) (upF D 6 k 1) := by
            have := (AG_C hs2 hT).eq hwf2
            rwa [hXe] at this
          refine ⟨so, c_0 hg, (c_52 hg).1, (c_52 hg).2.1, ko, fun M2 hs3 => ?_⟩
          rw [hd2, wor_e kx]
          subst hB79
          unfold BX5_unpick_79
          simp only [T_X5_isAsked, T_X0_worth, T_X0_become, i_const, i_lconst, i_iload, i_aload, i_lload, i_istore, i_astore, i_lstore, i_iinc, i_bin, i_div, i_un, i_i2l, i_l2i, i_lbin, i_lcmp, i_if, i_icmp, i_dup, i_dup_x1, i_dup2, i_pop, i_geti, i_getr, i_getd, i_puti, i_putz, i_putd, i_iald, i_bald, i_aald, i_iast, i_bast, i_alen, i_keep, i_ret, i_retz, i_reta, i_retl, i_retv, i_callv, i_callk, i_calls, i_mm, i_copy, i_under, i_undld, i_ldcs, i_sw, q_swc0, q_swc1, q_lg0, q_lg1, q_lent0, q_lent1, lset, lset2, q_lins0, q_lins1, q_ldel0, q_ldel1, q_ldel20, q_ldel21, q_lkeep0, q_lkeep1, q_memb0, q_memb1, cat2, Nat.reduceBEq, decide_true, decide_false, decide_eq_true_eq, cond_true, cond_false, Bool.and_true, Bool.and_false, Bool.true_and, Bool.false_and, f_iadd, f_isub, f_imul, f_ishl, f_ishr, f_iushr, f_iand, f_ior, f_idiv, f_irem, f_ineg, f_i2b, f_i2s, f_ladd, f_lmul, c_eq, c_ne, c_lt, c_ge, c_gt, c_le, cc_eq, cc_ne, cc_lt, cc_ge, cc_gt, cc_le, rfo, aof, csum, Value.category, List.take, List.drop, List.reverse, List.reverseAux, List.map, List.sum_cons, List.sum_nil, List.cons_append, List.nil_append, Option.toList, List.mem_cons, List.not_mem_nil, List.length_cons, List.length_nil, reduceIte, Nat.reduceEqDiff, Nat.reduceAdd, Nat.reduceLeDiff, Nat.reduceLT, a_day, Nat.zero_ne_one, Nat.one_ne_zero, false_and, and_false, true_and, and_true, or_false, false_or, or_true, true_or, not_true_eq_false, not_false_eq_true, Nat.zero_add, Nat.add_zero, Nat.le_refl, Nat.lt_irrefl, Nat.zero_lt_succ, Nat.zero_le, forall_const, List.cons.injEq, Value.int.injEq, Value.ref.injEq, Value.long.injEq, and_assoc, exists_and_left, exists_eq_left']
          try simp only [forall_eq]
          rw [nI_1]
          have hd3 : dv M2 52 = upF D 6 k 1 := by rw [dv_C52 hs3 ko.n rfl]; exact hd2
          have hd4 : dv (mset M2 (57 + k) 5 0) 52 = D := by
            have : dv (mset M2 (57 + k) 5 0) 52 = upF (dv M2 52) 6 k 0 := dv_set (q := 52) (j := 5) (by decide) (by rw [hd3]; unfold dn; rw [upF_ne (by decide)]; exact hlt)
            rw [this, hd3]
            funext f i
            by_cases c : f = 6 ∧ i = k
            · obtain ⟨rfl, rfl⟩ := c; rw [upF_s, y]
            · have e1 : upF (upF D 6 k 1) 6 k 0 f i = upF D 6 k 1 f i := if_neg c
              have e2 : upF D 6 k 1 f i = D f i := if_neg c
              rw [e1, e2]
          have hs4 : Sm YC M (mset M2 (57 + k) 5 0) := (hs2.tr (hs3.mono fun a b q => Or.inl (XP_D q))).set _ (Or.inl (Or.inl (by omega)))
          refine ⟨so, fun u => fin _ _ _ hs4 hd4 ?_, fun u => fin _ _ _ hs4 hd4 ?_⟩
          · simp only [unpN, cup]; rw [if_pos y, if_neg (i_not_lt.mpr u)]
          · simp only [unpN, cup]; rw [if_pos y, if_pos (i_not_le.mp u)]
      
    refine s_of (fun lv st M0 hs => ?_) (WX5_unpick_0 C (t_X5_isAsked hg) (by decide) (t_X0_worth hg) (by decide) (t_X0_become hg) (by decide) L34)
    obtain ⟨rfl, rfl, rfl⟩ := hs
    unfold BX5_unpick_0
    generalize hB4 : BX5_unpick_4 g Q (T_X5_isAsked g) (T_X0_worth g) (T_X0_become g) E34 = B4
    simp only [T_X5_isAsked, T_X0_worth, T_X0_become, i_const, i_lconst, i_iload, i_aload, i_lload, i_istore, i_astore, i_lstore, i_iinc, i_bin, i_div, i_un, i_i2l, i_l2i, i_lbin, i_lcmp, i_if, i_icmp, i_dup, i_dup_x1, i_dup2, i_pop, i_geti, i_getr, i_getd, i_puti, i_putz, i_putd, i_iald, i_bald, i_aald, i_iast, i_bast, i_alen, i_keep, i_ret, i_retz, i_reta, i_retl, i_retv, i_callv, i_callk, i_calls, i_mm, i_copy, i_under, i_undld, i_ldcs, i_sw, q_swc0, q_swc1, q_lg0, q_lg1, q_lent0, q_lent1, lset, lset2, q_lins0, q_lins1, q_ldel0, q_ldel1, q_ldel20, q_ldel21, q_lkeep0, q_lkeep1, q_memb0, q_memb1, cat2, Nat.reduceBEq, decide_true, decide_false, decide_eq_true_eq, cond_true, cond_false, Bool.and_true, Bool.and_false, Bool.true_and, Bool.false_and, f_iadd, f_isub, f_imul, f_ishl, f_ishr, f_iushr, f_iand, f_ior, f_idiv, f_irem, f_ineg, f_i2b, f_i2s, f_ladd, f_lmul, c_eq, c_ne, c_lt, c_ge, c_gt, c_le, cc_eq, cc_ne, cc_lt, cc_ge, cc_gt, cc_le, rfo, aof, csum, Value.category, List.take, List.drop, List.reverse, List.reverseAux, List.map, List.sum_cons, List.sum_nil, List.cons_append, List.nil_append, Option.toList, List.mem_cons, List.not_mem_nil, List.length_cons, List.length_nil, reduceIte, Nat.reduceEqDiff, Nat.reduceAdd, Nat.reduceLeDiff, Nat.reduceLT, a_day, Nat.zero_ne_one, Nat.one_ne_zero, false_and, and_false, true_and, and_true, or_false, false_or, or_true, true_or, not_true_eq_false, not_false_eq_true, Nat.zero_add, Nat.add_zero, Nat.le_refl, Nat.lt_irrefl, Nat.zero_lt_succ, Nat.zero_le, forall_const, List.cons.injEq, Value.int.injEq, Value.ref.injEq, Value.long.injEq, and_assoc, exists_and_left, exists_eq_left']
    try simp only [forall_eq]
    subst hB4
    unfold BX5_unpick_4
    generalize hB17 : BX5_unpick_17 g Q (T_X5_isAsked g) (T_X0_worth g) (T_X0_become g) E34 = B17
    simp only [T_X5_isAsked, T_X0_worth, T_X0_become, i_const, i_lconst, i_iload, i_aload, i_lload, i_istore, i_astore, i_lstore, i_iinc, i_bin, i_div, i_un, i_i2l, i_l2i, i_lbin, i_lcmp, i_if, i_icmp, i_dup, i_dup_x1, i_dup2, i_pop, i_geti, i_getr, i_getd, i_puti, i_putz, i_putd, i_iald, i_bald, i_aald, i_iast, i_bast, i_alen, i_keep, i_ret, i_retz, i_reta, i_retl, i_retv, i_callv, i_callk, i_calls, i_mm, i_copy, i_under, i_undld, i_ldcs, i_sw, q_swc0, q_swc1, q_lg0, q_lg1, q_lent0, q_lent1, lset, lset2, q_lins0, q_lins1, q_ldel0, q_ldel1, q_ldel20, q_ldel21, q_lkeep0, q_lkeep1, q_memb0, q_memb1, cat2, Nat.reduceBEq, decide_true, decide_false, decide_eq_true_eq, cond_true, cond_false, Bool.and_true, Bool.and_false, Bool.true_and, Bool.false_and, f_iadd, f_isub, f_imul, f_ishl, f_ishr, f_iushr, f_iand, f_ior, f_idiv, f_irem, f_ineg, f_i2b, f_i2s, f_ladd, f_lmul, c_eq, c_ne, c_lt, c_ge, c_gt, c_le, cc_eq, cc_ne, cc_lt, cc_ge, cc_gt, cc_le, rfo, aof, csum, Value.category, List.take, List.drop, List.reverse, List.reverseAux, List.map, List.sum_cons, List.sum_nil, List.cons_append, List.nil_append, Option.toList, List.mem_cons, List.not_mem_nil, List.length_cons, List.length_nil, reduceIte, Nat.reduceEqDiff, Nat.reduceAdd, Nat.reduceLeDiff, Nat.reduceLT, a_day, Nat.zero_ne_one, Nat.one_ne_zero, false_and, and_false, true_and, and_true, or_false, false_or, or_true, true_or, not_true_eq_false, not_false_eq_true, Nat.zero_add, Nat.add_zero, Nat.le_refl, Nat.lt_irrefl, Nat.zero_lt_succ, Nat.zero_le, forall_const, List.cons.injEq, Value.int.injEq, Value.ref.injEq, Value.long.injEq, and_assoc, exists_and_left, exists_eq_left']
    try simp only [forall_eq]
    refine ⟨fun z3 => ?_, fun z => hf (b2n (Decidable.not_not.mp z))⟩
    refine ⟨c_0 hg, (c_40 hg).1, (c_40 hg).2.1, ho, fun M1 hs1 => ?_⟩
    subst hB17
    unfold BX5_unpick_17
    simp only [T_X5_isAsked, T_X0_worth, T_X0_become, i_const, i_lconst, i_iload, i_aload, i_lload, i_istore, i_astore, i_lstore, i_iinc, i_bin, i_div, i_un, i_i2l, i_l2i, i_lbin, i_lcmp, i_if, i_icmp, i_dup, i_dup_x1, i_dup2, i_pop, i_geti, i_getr, i_getd, i_puti, i_putz, i_putd, i_iald, i_bald, i_aald, i_iast, i_bast, i_alen, i_keep, i_ret, i_retz, i_reta, i_retl, i_retv, i_callv, i_callk, i_calls, i_mm, i_copy, i_under, i_undld, i_ldcs, i_sw, q_swc0, q_swc1, q_lg0, q_lg1, q_lent0, q_lent1, lset, lset2, q_lins0, q_lins1, q_ldel0, q_ldel1, q_ldel20, q_ldel21, q_lkeep0, q_lkeep1, q_memb0, q_memb1, cat2, Nat.reduceBEq, decide_true, decide_false, decide_eq_true_eq, cond_true, cond_false, Bool.and_true, Bool.and_false, Bool.true_and, Bool.false_and, f_iadd, f_isub, f_imul, f_ishl, f_ishr, f_iushr, f_iand, f_ior, f_idiv, f_irem, f_ineg, f_i2b, f_i2s, f_ladd, f_lmul, c_eq, c_ne, c_lt, c_ge, c_gt, c_le, cc_eq, cc_ne, cc_lt, cc_ge, cc_gt, cc_le, rfo, aof, csum, Value.category, List.take, List.drop, List.reverse, List.reverseAux, List.map, List.sum_cons, List.sum_nil, List.cons_append, List.nil_append, Option.toList, List.mem_cons, List.not_mem_nil, List.length_cons, List.length_nil, reduceIte, Nat.reduceEqDiff, Nat.reduceAdd, Nat.reduceLeDiff, Nat.reduceLT, a_day, Nat.zero_ne_one, Nat.one_ne_zero, false_and, and_false, true_and, and_true, or_false, false_or, or_true, true_or, not_true_eq_false, not_false_eq_true, Nat.zero_add, Nat.add_zero, Nat.le_refl, Nat.lt_irrefl, Nat.zero_lt_succ, Nat.zero_le, forall_const, List.cons.injEq, Value.int.injEq, Value.ref.injEq, Value.long.injEq, and_assoc, exists_and_left, exists_eq_left']
    try simp only [forall_eq]
    have ho1 : okD M1 40 := ho.P D40 hs1
    have hd1 : dv M1 40 = D := by rw [← hDe]; exact dv_P hs1 D40 D40 (by rw [hDe]; omega)
    refine ⟨c_0 hg, c_0 hg, (c_52 hg).1, (c_52 hg).2.1, D52, ho1, fun M2 hs2 hd2 => ?_⟩
    rw [hd1] at hd2
    refine iE34 (dn D - 0) _ _ _ ?_
    rw [hI34]
    exact ⟨0, by rw [hDe, hXe]; rfl, rfl, by omega, rfl, (Sm_YC40 hs1).tr (Sm_YC hs2), hd2, b2t z3⟩
