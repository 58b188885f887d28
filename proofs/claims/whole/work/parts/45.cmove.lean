/-! ===== the class: thread, move ===== -/
theorem sh_eq {fi' la' k : Nat} (h1 : fi' ≤ la') (h2 : la' < 16) (hk : k < 16) : (if nI k + nI la' - nI fi' < 15 then nI k + nI la' - nI fi' else 15) = nI (min 15 (k + (la' - fi'))) := by
  rw [nI_add, pk_sub (by omega), show (15 : Int32) = nI 15 from rfl]
  by_cases c : k + la' - fi' < 15
  · rw [if_pos ((nI_ltI (by omega) (by decide)).mpr c)]
    congr 1; omega
  · rw [if_neg (fun q => c ((nI_ltI (by omega) (by decide)).mp q))]
    congr 1; omega
def T_X5_thread (g : WG) (as : List Value) (M : MM) (Q : Option Value → MM → Prop) : Prop := ∃ s n w, as = [.ref 0, .int s, .int n, .int w] ∧ okD M 40 ∧ ∀ M', Sm YC M M' → Q (some (.int (thrA (xc M) (dv M 40) s n w))) M'
set_option maxRecDepth 100000 in
set_option maxHeartbeats 4000000 in
theorem t_X5_thread {l : Launch} {g : WG} (hg : Full g) : Ct l g yX5_thread cX5_thread 9 ((Option.some FieldType.int)) 7 (T_X5_thread g) := by
  refine Ct.of (by decide) (fun as M Q h => ?_) (fun p e s m args below meth c as M Q h C => ?_)
  · obtain ⟨s0, n0, w, rfl, ho, h⟩ := h; exact ⟨by simp, by simp [Value.category]⟩
  · obtain ⟨s0, n0, w, rfl, ho, h⟩ := h
    have hn := ho.n
    have hmany := ho.many
    obtain ⟨-, Tn, hwf, htx⟩ := id ho
    obtain ⟨D, hDe⟩ : ∃ D, dv M 40 = D := ⟨_, rfl⟩
    obtain ⟨X, hXe⟩ : ∃ X, xc M = X := ⟨_, rfl⟩
    rw [hDe] at hn hwf hmany
    rw [hDe, hXe] at h
    have hT := hwf.2.2.2.2
    have hf := fun (c1 : ¬ (((0 ≤ s0 ∧ s0 < nI (dn D)) ∧ (0 ≤ n0 ∧ n0 ≤ 40)) ∧ (0 ≤ w ∧ w ≤ 1))) => by
      have := h M Sm.rf
      rwa [thrA, if_neg c1] at this
    have keep : ∀ M', Sm YC M M' → okD M' 40 ∧ dv M' 40 = D := fun M' hs => by
      have e := dv_C hs (by rw [hDe]; exact hn)
      exact ⟨okC_to D40 hs (e.trans hDe) hwf htx, e.trans hDe⟩
    have wfk : ∀ s k, k < 6 → wfD (upF D 1 s (nI k)) Tn := fun s k hk => wfD_f hwf (by decide) (by decide) ⟨by decide, by decide⟩ (fun _ => ⟨k, hk, rfl⟩) (fun q => absurd q (by decide)) (fun q => absurd q (by decide))
    have key : ∀ M' : MM, Sm YC M M' → ∀ s k i, k < 6 → dv M' 52 = pasN X (upF D 1 s (nI k)) i → okD M' 52 ∧ EQ X (xc M') (pasN X (upF D 1 s (nI k)) i) := by
      intro M' hs s k i hk hd
      have w2 := wfD_pasN (X := X) (wfk s k hk) i
      refine ⟨okC_to D52 hs hd w2 htx, ?_⟩
      have := (AG_C hs hT).eq w2
      rwa [hXe] at this
    obtain ⟨I34, hI34⟩ : ∃ I : Nat → PP, I = (fun n lv st M' => ∃ k sx nn, sx < dn D ∧ nn ≤ 40 ∧ s0 = nI sx ∧ n0 = nI nn ∧ (0 ≤ w ∧ w ≤ 1) ∧ lv = [(0, .ref 0), (1, .int (nI sx)), (2, .int (nI nn)), (3, .int w), (4, .int (thN X D sx nn k).1), (5, .int (thN X D sx nn k).2), (6, .int (nI k))] ∧ st = [] ∧ k ≤ 6 ∧ n = 6 - k ∧ Sm YC M M') := ⟨_, rfl⟩
    obtain ⟨E34, hE34⟩ : ∃ E : PP, E = (fun lv st M => ∃ n, I34 n lv st M) := ⟨_, rfl⟩
    have iE34 : ∀ n lv st M, I34 n lv st M → E34 lv st M := fun n lv st M h => by rw [hE34]; exact ⟨n, h⟩
    obtain ⟨I72, hI72⟩ : ∃ I : PP → Nat → PP, I = (fun K n lv st M' => ∃ k sx nn i, sx < dn D ∧ nn ≤ 40 ∧ k < 6 ∧ i ≤ nn ∧ lv = [(0, .ref 0), (1, .int (nI sx)), (2, .int (nI nn)), (3, .int w), (4, .int (thN X D sx nn k).1), (5, .int (thN X D sx nn k).2), (6, .int (nI k)), (7, .int (alw X (upF D 1 sx (nI k)) i)), (8, .int (nI i))] ∧ st = [] ∧ n = nn - i ∧ Sm YC M M' ∧ dv M' 52 = pasN X (upF D 1 sx (nI k)) i ∧ ∀ M2, Sm YC M M2 → K [(0, .ref 0), (1, .int (nI sx)), (2, .int (nI nn)), (3, .int w), (4, .int (thN X D sx nn (k + 1)).1), (5, .int (thN X D sx nn (k + 1)).2), (6, .int (nI (k + 1)))] [] M2) := ⟨_, rfl⟩
    have L72 : ∀ K34, Sj p l e 7 s m args below meth c 9 g (MQ below (cQc g Q) args s 0 0 (gA g)) 34 K34 → Sj p l e 7 s m args below meth c 9 g (MQ below (cQc g Q) args s 0 0 (gA g)) 72 (fun lv st M => ∃ n, I72 K34 n lv st M) := by
      intro K34 k34
      refine s_ex (s_loop (I72 K34) (fun K72 k72 => WX5_thread_72 C (t_X5_isSeam hg) (by decide) (t_X5_isDays hg) (by decide) (t_X5_isAsked hg) (by decide) (t_X0_become hg) (by decide) (t_X0_wearOn hg) (by decide) (t_X0_worth hg) (by decide) k34 k72) ?_)
      intro n lv st M1 K72 hK72 hI; rw [hI72] at hI; obtain ⟨k, sx, nn, i, hsx, hnn, hk6, hi, rfl, rfl, rfl, hs, hd, hK⟩ := hI
      unfold BX5_thread_72
      generalize hB85 : BX5_thread_85 g Q (T_X5_isSeam g) (T_X5_isDays g) (T_X5_isAsked g) (T_X0_become g) (T_X0_wearOn g) (T_X0_worth g) K34 K72 = B85
      generalize hB117 : BX5_thread_117 g Q (T_X5_isSeam g) (T_X5_isDays g) (T_X5_isAsked g) (T_X0_become g) (T_X0_wearOn g) (T_X0_worth g) K34 K72 = B117
      simp only [T_X5_isSeam, T_X5_isDays, T_X5_isAsked, T_X0_become, T_X0_wearOn, T_X0_worth, i_const, i_lconst, i_iload, i_aload, i_lload, i_istore, i_astore, i_lstore, i_iinc, i_bin, i_div, i_un, i_i2l, i_l2i, i_lbin, i_lcmp, i_if, i_icmp, i_dup, i_dup_x1, i_dup2, i_pop, i_geti, i_getr, i_getd, i_puti, i_putz, i_putd, i_iald, i_bald, i_aald, i_iast, i_bast, i_alen, i_keep, i_ret, i_retz, i_reta, i_retl, i_retv, i_callv, i_callk, i_calls, i_mm, i_copy, i_under, i_undld, i_ldcs, i_sw, q_swc0, q_swc1, q_lg0, q_lg1, q_lent0, q_lent1, lset, lset2, q_lins0, q_lins1, q_ldel0, q_ldel1, q_ldel20, q_ldel21, q_lkeep0, q_lkeep1, q_memb0, q_memb1, cat2, Nat.reduceBEq, decide_true, decide_false, decide_eq_true_eq, cond_true, cond_false, Bool.and_true, Bool.and_false, Bool.true_and, Bool.false_and, f_iadd, f_isub, f_imul, f_ishl, f_ishr, f_iushr, f_iand, f_ior, f_idiv, f_irem, f_ineg, f_i2b, f_i2s, f_ladd, f_lmul, c_eq, c_ne, c_lt, c_ge, c_gt, c_le, cc_eq, cc_ne, cc_lt, cc_ge, cc_gt, cc_le, rfo, aof, csum, Value.category, List.take, List.drop, List.reverse, List.reverseAux, List.map, List.sum_cons, List.sum_nil, List.cons_append, List.nil_append, Option.toList, List.mem_cons, List.not_mem_nil, List.length_cons, List.length_nil, reduceIte, Nat.reduceEqDiff, Nat.reduceAdd, Nat.reduceLeDiff, Nat.reduceLT, a_day, Nat.zero_ne_one, Nat.one_ne_zero, false_and, and_false, true_and, and_true, or_false, false_or, or_true, true_or, not_true_eq_false, not_false_eq_true, Nat.zero_add, Nat.add_zero, Nat.le_refl, Nat.lt_irrefl, Nat.zero_lt_succ, Nat.zero_le, forall_const, List.cons.injEq, Value.int.injEq, Value.ref.injEq, Value.long.injEq, and_assoc, exists_and_left, exists_eq_left']
      try simp only [forall_eq]
      obtain ⟨ko, kx⟩ := key M1 hs sx k i hk6 hd
      rw [nI_leI (by omega) (by omega)]
      refine ⟨fun z => ?_, fun z => ⟨c_0 hg, (c_52 hg).1, (c_52 hg).2.1, ko, fun M2 hs2 hd2 => ?_⟩⟩
      · have : i = nn := by omega
        subst this
        have hKk := hK M1 hs
        simp only [thN, cup1] at hKk
        have go : ((thN X D sx i k).2 = -1 ∨ (thN X D sx i k).1 < alw X (upF D 1 sx (nI k)) i) → BX5_thread_117 g Q (T_X5_isSeam g) (T_X5_isDays g) (T_X5_isAsked g) (T_X0_become g) (T_X0_wearOn g) (T_X0_worth g) K34 K72 [(0, .ref 0), (1, .int (nI sx)), (2, .int (nI i)), (3, .int w), (4, .int (thN X D sx i k).1), (5, .int (thN X D sx i k).2), (6, .int (nI k)), (7, .int (alw X (upF D 1 sx (nI k)) i)), (8, .int (nI i))] [] M1 := by
          intro c
          unfold BX5_thread_117
          simp only [i_const, i_lconst, i_iload, i_aload, i_lload, i_istore, i_astore, i_lstore, i_iinc, i_bin, i_div, i_un, i_i2l, i_l2i, i_lbin, i_lcmp, i_if, i_icmp, i_dup, i_dup_x1, i_dup2, i_pop, i_geti, i_getr, i_getd, i_puti, i_putz, i_putd, i_iald, i_bald, i_aald, i_iast, i_bast, i_alen, i_keep, i_ret, i_retz, i_reta, i_retl, i_retv, i_callv, i_callk, i_calls, i_mm, i_copy, i_under, i_undld, i_ldcs, i_sw, q_swc0, q_swc1, q_lg0, q_lg1, q_lent0, q_lent1, lset, lset2, q_lins0, q_lins1, q_ldel0, q_ldel1, q_ldel20, q_ldel21, q_lkeep0, q_lkeep1, q_memb0, q_memb1, cat2, Nat.reduceBEq, decide_true, decide_false, decide_eq_true_eq, cond_true, cond_false, Bool.and_true, Bool.and_false, Bool.true_and, Bool.false_and, f_iadd, f_isub, f_imul, f_ishl, f_ishr, f_iushr, f_iand, f_ior, f_idiv, f_irem, f_ineg, f_i2b, f_i2s, f_ladd, f_lmul, c_eq, c_ne, c_lt, c_ge, c_gt, c_le, cc_eq, cc_ne, cc_lt, cc_ge, cc_gt, cc_le, rfo, aof, csum, Value.category, List.take, List.drop, List.reverse, List.reverseAux, List.map, List.sum_cons, List.sum_nil, List.cons_append, List.nil_append, Option.toList, List.mem_cons, List.not_mem_nil, List.length_cons, List.length_nil, reduceIte, Nat.reduceEqDiff, Nat.reduceAdd, Nat.reduceLeDiff, Nat.reduceLT, a_day, Nat.zero_ne_one, Nat.one_ne_zero, false_and, and_false, true_and, and_true, or_false, false_or, or_true, true_or, not_true_eq_false, not_false_eq_true, Nat.zero_add, Nat.add_zero, Nat.le_refl, Nat.lt_irrefl, Nat.zero_lt_succ, Nat.zero_le, forall_const, List.cons.injEq, Value.int.injEq, Value.ref.injEq, Value.long.injEq, and_assoc, exists_and_left, exists_eq_left', forall_eq]
          rw [nI_1]
          rw [if_pos c] at hKk
          exact hKk
        rw [nI_1]
        refine ⟨fun y => ?_, fun y => ⟨fun u => ?_, fun u => ?_⟩⟩
        · subst_vars; exact go (Or.inl y)
        · rw [if_neg (fun q => q.elim y (fun q => i_not_lt.mpr u q))] at hKk
          exact hKk
        · subst_vars; exact go (Or.inr (i_not_le.mp u))
      · have hpd : pasD (xc M1) (dv M1 52) = pasN X (upF D 1 sx (nI k)) (i + 1) := by rw [hd, pasD_e kx]; rfl
        rw [hpd] at hd2
        have hs2C : Sm YC M M2 := hs.tr (Sm_YC hs2)
        obtain ⟨ko2, kx2⟩ := key M2 hs2C sx k (i + 1) hk6 hd2
        subst hB85
        unfold BX5_thread_85
        generalize hB95 : BX5_thread_95 g Q (T_X5_isSeam g) (T_X5_isDays g) (T_X5_isAsked g) (T_X0_become g) (T_X0_wearOn g) (T_X0_worth g) K34 K72 = B95
        simp only [T_X5_isSeam, T_X5_isDays, T_X5_isAsked, T_X0_become, T_X0_wearOn, T_X0_worth, i_const, i_lconst, i_iload, i_aload, i_lload, i_istore, i_astore, i_lstore, i_iinc, i_bin, i_div, i_un, i_i2l, i_l2i, i_lbin, i_lcmp, i_if, i_icmp, i_dup, i_dup_x1, i_dup2, i_pop, i_geti, i_getr, i_getd, i_puti, i_putz, i_putd, i_iald, i_bald, i_aald, i_iast, i_bast, i_alen, i_keep, i_ret, i_retz, i_reta, i_retl, i_retv, i_callv, i_callk, i_calls, i_mm, i_copy, i_under, i_undld, i_ldcs, i_sw, q_swc0, q_swc1, q_lg0, q_lg1, q_lent0, q_lent1, lset, lset2, q_lins0, q_lins1, q_ldel0, q_ldel1, q_ldel20, q_ldel21, q_lkeep0, q_lkeep1, q_memb0, q_memb1, cat2, Nat.reduceBEq, decide_true, decide_false, decide_eq_true_eq, cond_true, cond_false, Bool.and_true, Bool.and_false, Bool.true_and, Bool.false_and, f_iadd, f_isub, f_imul, f_ishl, f_ishr, f_iushr, f_iand, f_ior, f_idiv, f_irem, f_ineg, f_i2b, f_i2s, f_ladd, f_lmul, c_eq, c_ne, c_lt, c_ge, c_gt, c_le, cc_eq, cc_ne, cc_lt, cc_ge, cc_gt, cc_le, rfo, aof, csum, Value.category, List.take, List.drop, List.reverse, List.reverseAux, List.map, List.sum_cons, List.sum_nil, List.cons_append, List.nil_append, Option.toList, List.mem_cons, List.not_mem_nil, List.length_cons, List.length_nil, reduceIte, Nat.reduceEqDiff, Nat.reduceAdd, Nat.reduceLeDiff, Nat.reduceLT, a_day, Nat.zero_ne_one, Nat.one_ne_zero, false_and, and_false, true_and, and_true, or_false, false_or, or_true, true_or, not_true_eq_false, not_false_eq_true, Nat.zero_add, Nat.add_zero, Nat.le_refl, Nat.lt_irrefl, Nat.zero_lt_succ, Nat.zero_le, forall_const, List.cons.injEq, Value.int.injEq, Value.ref.injEq, Value.long.injEq, and_assoc, exists_and_left, exists_eq_left']
        try simp only [forall_eq]
        refine ⟨c_0 hg, (c_52 hg).1, (c_52 hg).2.1, ko2, fun M3 hs3 => ?_⟩
        subst hB95
        unfold BX5_thread_95
        simp only [T_X5_isSeam, T_X5_isDays, T_X5_isAsked, T_X0_become, T_X0_wearOn, T_X0_worth, i_const, i_lconst, i_iload, i_aload, i_lload, i_istore, i_astore, i_lstore, i_iinc, i_bin, i_div, i_un, i_i2l, i_l2i, i_lbin, i_lcmp, i_if, i_icmp, i_dup, i_dup_x1, i_dup2, i_pop, i_geti, i_getr, i_getd, i_puti, i_putz, i_putd, i_iald, i_bald, i_aald, i_iast, i_bast, i_alen, i_keep, i_ret, i_retz, i_reta, i_retl, i_retv, i_callv, i_callk, i_calls, i_mm, i_copy, i_under, i_undld, i_ldcs, i_sw, q_swc0, q_swc1, q_lg0, q_lg1, q_lent0, q_lent1, lset, lset2, q_lins0, q_lins1, q_ldel0, q_ldel1, q_ldel20, q_ldel21, q_lkeep0, q_lkeep1, q_memb0, q_memb1, cat2, Nat.reduceBEq, decide_true, decide_false, decide_eq_true_eq, cond_true, cond_false, Bool.and_true, Bool.and_false, Bool.true_and, Bool.false_and, f_iadd, f_isub, f_imul, f_ishl, f_ishr, f_iushr, f_iand, f_ior, f_idiv, f_irem, f_ineg, f_i2b, f_i2s, f_ladd, f_lmul, c_eq, c_ne, c_lt, c_ge, c_gt, c_le, cc_eq, cc_ne, cc_lt, cc_ge, cc_gt, cc_le, rfo, aof, csum, Value.category, List.take, List.drop, List.reverse, List.reverseAux, List.map, List.sum_cons, List.sum_nil, List.cons_append, List.nil_append, Option.toList, List.mem_cons, List.not_mem_nil, List.length_cons, List.length_nil, reduceIte, Nat.reduceEqDiff, Nat.reduceAdd, Nat.reduceLeDiff, Nat.reduceLT, a_day, Nat.zero_ne_one, Nat.one_ne_zero, false_and, and_false, true_and, and_true, or_false, false_or, or_true, true_or, not_true_eq_false, not_false_eq_true, Nat.zero_add, Nat.add_zero, Nat.le_refl, Nat.lt_irrefl, Nat.zero_lt_succ, Nat.zero_le, forall_const, List.cons.injEq, Value.int.injEq, Value.ref.injEq, Value.long.injEq, and_assoc, exists_and_left, exists_eq_left']
        try simp only [forall_eq]
        rw [hd2, wor_e kx2, nI_1]
        refine hK72 (nn - (i + 1)) _ _ _ (by omega) ?_
        rw [hI72]
        exact ⟨k, sx, nn, i + 1, hsx, hnn, hk6, by omega, rfl, rfl, rfl, hs2C.tr (hs3.mono fun a b q => Or.inl (XP_D q)), by rw [dv_C52 hs3 ko2.n rfl]; exact hd2, hK⟩
    have L34 : Sj p l e 7 s m args below meth c 9 g (MQ below (cQc g Q) args s 0 0 (gA g)) 34 E34 := by
      rw [hE34]
      refine s_ex (s_loop I34 (fun K34 k34 => WX5_thread_34 C (t_X5_isSeam hg) (by decide) (t_X5_isDays hg) (by decide) (t_X5_isAsked hg) (by decide) (t_X0_become hg) (by decide) (t_X0_wearOn hg) (by decide) (t_X0_worth hg) (by decide) k34 (L72 _ k34)) ?_)
      intro n lv st M1 K34 hK34 hI; rw [hI34] at hI; obtain ⟨k, sx, nn, hsx, hnn, hse, hne, hw01, rfl, rfl, hk, rfl, hs⟩ := hI
      generalize hE72 : (fun lv st M => ∃ n, I72 K34 n lv st M) = E72
      have iE72 : ∀ n lv st M, I72 K34 n lv st M → E72 lv st M := fun n lv st M h => by rw [← hE72]; exact ⟨n, h⟩
      unfold BX5_thread_34
      generalize hB52 : BX5_thread_52 g Q (T_X5_isSeam g) (T_X5_isDays g) (T_X5_isAsked g) (T_X0_become g) (T_X0_wearOn g) (T_X0_worth g) K34 E72 = B52
      generalize hB131 : BX5_thread_131 g Q (T_X5_isSeam g) (T_X5_isDays g) (T_X5_isAsked g) (T_X0_become g) (T_X0_wearOn g) (T_X0_worth g) K34 E72 = B131
      simp only [T_X5_isSeam, T_X5_isDays, T_X5_isAsked, T_X0_become, T_X0_wearOn, T_X0_worth, i_const, i_lconst, i_iload, i_aload, i_lload, i_istore, i_astore, i_lstore, i_iinc, i_bin, i_div, i_un, i_i2l, i_l2i, i_lbin, i_lcmp, i_if, i_icmp, i_dup, i_dup_x1, i_dup2, i_pop, i_geti, i_getr, i_getd, i_puti, i_putz, i_putd, i_iald, i_bald, i_aald, i_iast, i_bast, i_alen, i_keep, i_ret, i_retz, i_reta, i_retl, i_retv, i_callv, i_callk, i_calls, i_mm, i_copy, i_under, i_undld, i_ldcs, i_sw, q_swc0, q_swc1, q_lg0, q_lg1, q_lent0, q_lent1, lset, lset2, q_lins0, q_lins1, q_ldel0, q_ldel1, q_ldel20, q_ldel21, q_lkeep0, q_lkeep1, q_memb0, q_memb1, cat2, Nat.reduceBEq, decide_true, decide_false, decide_eq_true_eq, cond_true, cond_false, Bool.and_true, Bool.and_false, Bool.true_and, Bool.false_and, f_iadd, f_isub, f_imul, f_ishl, f_ishr, f_iushr, f_iand, f_ior, f_idiv, f_irem, f_ineg, f_i2b, f_i2s, f_ladd, f_lmul, c_eq, c_ne, c_lt, c_ge, c_gt, c_le, cc_eq, cc_ne, cc_lt, cc_ge, cc_gt, cc_le, rfo, aof, csum, Value.category, List.take, List.drop, List.reverse, List.reverseAux, List.map, List.sum_cons, List.sum_nil, List.cons_append, List.nil_append, Option.toList, List.mem_cons, List.not_mem_nil, List.length_cons, List.length_nil, reduceIte, Nat.reduceEqDiff, Nat.reduceAdd, Nat.reduceLeDiff, Nat.reduceLT, a_day, Nat.zero_ne_one, Nat.one_ne_zero, false_and, and_false, true_and, and_true, or_false, false_or, or_true, true_or, not_true_eq_false, not_false_eq_true, Nat.zero_add, Nat.add_zero, Nat.le_refl, Nat.lt_irrefl, Nat.zero_lt_succ, Nat.zero_le, forall_const, List.cons.injEq, Value.int.injEq, Value.ref.injEq, Value.long.injEq, and_assoc, exists_and_left, exists_eq_left']
      try simp only [forall_eq]
      rw [show (6 : Int32) = nI 6 from rfl, nI_leI (by decide) (by omega)]
      obtain ⟨ho1, hd1⟩ := keep M1 hs
      refine ⟨fun z => ?_, fun z => ⟨c_0 hg, c_0 hg, (c_52 hg).1, (c_52 hg).2.1, D52, ho1, fun M2 hs2 hd2 => ?_⟩⟩
      · have : k = 6 := by omega
        subst this
        subst hB131
        unfold BX5_thread_131
        simp only [T_X5_isSeam, T_X5_isDays, T_X5_isAsked, T_X0_become, T_X0_wearOn, T_X0_worth, i_const, i_lconst, i_iload, i_aload, i_lload, i_istore, i_astore, i_lstore, i_iinc, i_bin, i_div, i_un, i_i2l, i_l2i, i_lbin, i_lcmp, i_if, i_icmp, i_dup, i_dup_x1, i_dup2, i_pop, i_geti, i_getr, i_getd, i_puti, i_putz, i_putd, i_iald, i_bald, i_aald, i_iast, i_bast, i_alen, i_keep, i_ret, i_retz, i_reta, i_retl, i_retv, i_callv, i_callk, i_calls, i_mm, i_copy, i_under, i_undld, i_ldcs, i_sw, q_swc0, q_swc1, q_lg0, q_lg1, q_lent0, q_lent1, lset, lset2, q_lins0, q_lins1, q_ldel0, q_ldel1, q_ldel20, q_ldel21, q_lkeep0, q_lkeep1, q_memb0, q_memb1, cat2, Nat.reduceBEq, decide_true, decide_false, decide_eq_true_eq, cond_true, cond_false, Bool.and_true, Bool.and_false, Bool.true_and, Bool.false_and, f_iadd, f_isub, f_imul, f_ishl, f_ishr, f_iushr, f_iand, f_ior, f_idiv, f_irem, f_ineg, f_i2b, f_i2s, f_ladd, f_lmul, c_eq, c_ne, c_lt, c_ge, c_gt, c_le, cc_eq, cc_ne, cc_lt, cc_ge, cc_gt, cc_le, rfo, aof, csum, Value.category, List.take, List.drop, List.reverse, List.reverseAux, List.map, List.sum_cons, List.sum_nil, List.cons_append, List.nil_append, Option.toList, List.mem_cons, List.not_mem_nil, List.length_cons, List.length_nil, reduceIte, Nat.reduceEqDiff, Nat.reduceAdd, Nat.reduceLeDiff, Nat.reduceLT, a_day, Nat.zero_ne_one, Nat.one_ne_zero, false_and, and_false, true_and, and_true, or_false, false_or, or_true, true_or, not_true_eq_false, not_false_eq_true, Nat.zero_add, Nat.add_zero, Nat.le_refl, Nat.lt_irrefl, Nat.zero_lt_succ, Nat.zero_le, forall_const, List.cons.injEq, Value.int.injEq, Value.ref.injEq, Value.long.injEq, and_assoc, exists_and_left, exists_eq_left']
        try simp only [forall_eq]
        have hfin := h M1 hs
        rw [thrA, if_pos ⟨⟨⟨by rw [hse]; exact nI_pos' (by omega), by rw [hse]; exact (nI_ltI (by omega) (by omega)).mpr hsx⟩, ⟨by rw [hne]; exact nI_pos' (by omega), by rw [hne]; exact nI_le (b := 40) hnn (by decide)⟩⟩, hw01⟩, hse, hne, nI_clamp (by omega), nI_clamp (by omega)] at hfin
        unfold sel at hfin
        refine ⟨fun y => ?_, fun y => ?_⟩
        · rwa [if_neg y] at hfin
        · rwa [if_pos (Decidable.not_not.mp y)] at hfin
      · rw [hd1] at hd2
        have so : okq g 1 (57 + sx) := seam_ok (q := 52) (s := sx) hg D52 (by omega)
        have hd3 : dv (mset M2 (57 + sx) 0 (nI k)) 52 = upF D 1 sx (nI k) := by rw [← hd2]; exact dv_set (q := 52) (j := 0) (by decide) (by rw [hd2]; exact hsx)
        subst hB52
        unfold BX5_thread_52
        simp only [T_X5_isSeam, T_X5_isDays, T_X5_isAsked, T_X0_become, T_X0_wearOn, T_X0_worth, i_const, i_lconst, i_iload, i_aload, i_lload, i_istore, i_astore, i_lstore, i_iinc, i_bin, i_div, i_un, i_i2l, i_l2i, i_lbin, i_lcmp, i_if, i_icmp, i_dup, i_dup_x1, i_dup2, i_pop, i_geti, i_getr, i_getd, i_puti, i_putz, i_putd, i_iald, i_bald, i_aald, i_iast, i_bast, i_alen, i_keep, i_ret, i_retz, i_reta, i_retl, i_retv, i_callv, i_callk, i_calls, i_mm, i_copy, i_under, i_undld, i_ldcs, i_sw, q_swc0, q_swc1, q_lg0, q_lg1, q_lent0, q_lent1, lset, lset2, q_lins0, q_lins1, q_ldel0, q_ldel1, q_ldel20, q_ldel21, q_lkeep0, q_lkeep1, q_memb0, q_memb1, cat2, Nat.reduceBEq, decide_true, decide_false, decide_eq_true_eq, cond_true, cond_false, Bool.and_true, Bool.and_false, Bool.true_and, Bool.false_and, f_iadd, f_isub, f_imul, f_ishl, f_ishr, f_iushr, f_iand, f_ior, f_idiv, f_irem, f_ineg, f_i2b, f_i2s, f_ladd, f_lmul, c_eq, c_ne, c_lt, c_ge, c_gt, c_le, cc_eq, cc_ne, cc_lt, cc_ge, cc_gt, cc_le, rfo, aof, csum, Value.category, List.take, List.drop, List.reverse, List.reverseAux, List.map, List.sum_cons, List.sum_nil, List.cons_append, List.nil_append, Option.toList, List.mem_cons, List.not_mem_nil, List.length_cons, List.length_nil, reduceIte, Nat.reduceEqDiff, Nat.reduceAdd, Nat.reduceLeDiff, Nat.reduceLT, a_day, Nat.zero_ne_one, Nat.one_ne_zero, false_and, and_false, true_and, and_true, or_false, false_or, or_true, true_or, not_true_eq_false, not_false_eq_true, Nat.zero_add, Nat.add_zero, Nat.le_refl, Nat.lt_irrefl, Nat.zero_lt_succ, Nat.zero_le, forall_const, List.cons.injEq, Value.int.injEq, Value.ref.injEq, Value.long.injEq, and_assoc, exists_and_left, exists_eq_left']
        try simp only [forall_eq]
        rw [nI_clamp (by omega)]
        refine ⟨c_0 hg, c_52 hg, okR hg (by decide) (by decide) rfl, vp_in_nI (n := sx) (N := 7) (by omega) (by decide), so, iE72 (nn - 0) _ _ _ ?_⟩
        rw [hI72]
        refine ⟨k, sx, nn, 0, hsx, hnn, by omega, by omega, rfl, rfl, rfl, (hs.tr (Sm_YC hs2)).set _ (Or.inl (Or.inl (by omega))), hd3, fun M3 hs3 => ?_⟩
        refine hK34 (6 - (k + 1)) _ _ _ (by omega) ?_
        rw [hI34]
        exact ⟨k + 1, sx, nn, hsx, hnn, hse, hne, hw01, rfl, rfl, by omega, rfl, hs3⟩
    refine s_of (fun lv st M0 hs => ?_) (WX5_thread_0 C (t_X5_isSeam hg) (by decide) (t_X5_isDays hg) (by decide) (t_X5_isAsked hg) (by decide) (t_X0_become hg) (by decide) (t_X0_wearOn hg) (by decide) (t_X0_worth hg) (by decide) L34 s_F)
    obtain ⟨rfl, rfl, rfl⟩ := hs
    unfold BX5_thread_0
    generalize hB5 : BX5_thread_5 g Q (T_X5_isSeam g) (T_X5_isDays g) (T_X5_isAsked g) (T_X0_become g) (T_X0_wearOn g) (T_X0_worth g) E34 (fun _ _ _ => False) = B5
    simp only [T_X5_isSeam, T_X5_isDays, T_X5_isAsked, T_X0_become, T_X0_wearOn, T_X0_worth, i_const, i_lconst, i_iload, i_aload, i_lload, i_istore, i_astore, i_lstore, i_iinc, i_bin, i_div, i_un, i_i2l, i_l2i, i_lbin, i_lcmp, i_if, i_icmp, i_dup, i_dup_x1, i_dup2, i_pop, i_geti, i_getr, i_getd, i_puti, i_putz, i_putd, i_iald, i_bald, i_aald, i_iast, i_bast, i_alen, i_keep, i_ret, i_retz, i_reta, i_retl, i_retv, i_callv, i_callk, i_calls, i_mm, i_copy, i_under, i_undld, i_ldcs, i_sw, q_swc0, q_swc1, q_lg0, q_lg1, q_lent0, q_lent1, lset, lset2, q_lins0, q_lins1, q_ldel0, q_ldel1, q_ldel20, q_ldel21, q_lkeep0, q_lkeep1, q_memb0, q_memb1, cat2, Nat.reduceBEq, decide_true, decide_false, decide_eq_true_eq, cond_true, cond_false, Bool.and_true, Bool.and_false, Bool.true_and, Bool.false_and, f_iadd, f_isub, f_imul, f_ishl, f_ishr, f_iushr, f_iand, f_ior, f_idiv, f_irem, f_ineg, f_i2b, f_i2s, f_ladd, f_lmul, c_eq, c_ne, c_lt, c_ge, c_gt, c_le, cc_eq, cc_ne, cc_lt, cc_ge, cc_gt, cc_le, rfo, aof, csum, Value.category, List.take, List.drop, List.reverse, List.reverseAux, List.map, List.sum_cons, List.sum_nil, List.cons_append, List.nil_append, Option.toList, List.mem_cons, List.not_mem_nil, List.length_cons, List.length_nil, reduceIte, Nat.reduceEqDiff, Nat.reduceAdd, Nat.reduceLeDiff, Nat.reduceLT, a_day, Nat.zero_ne_one, Nat.one_ne_zero, false_and, and_false, true_and, and_true, or_false, false_or, or_true, true_or, not_true_eq_false, not_false_eq_true, Nat.zero_add, Nat.add_zero, Nat.le_refl, Nat.lt_irrefl, Nat.zero_lt_succ, Nat.zero_le, forall_const, List.cons.injEq, Value.int.injEq, Value.ref.injEq, Value.long.injEq, and_assoc, exists_and_left, exists_eq_left']
    try simp only [forall_eq]
    refine ⟨(c_0 hg).1, (c_0 hg).2.1, dn D, by omega, hmany, ?_⟩
    subst hB5
    unfold BX5_thread_5
    generalize hB12 : BX5_thread_12 g Q (T_X5_isSeam g) (T_X5_isDays g) (T_X5_isAsked g) (T_X0_become g) (T_X0_wearOn g) (T_X0_worth g) E34 (fun _ _ _ => False) = B12
    simp only [T_X5_isSeam, T_X5_isDays, T_X5_isAsked, T_X0_become, T_X0_wearOn, T_X0_worth, i_const, i_lconst, i_iload, i_aload, i_lload, i_istore, i_astore, i_lstore, i_iinc, i_bin, i_div, i_un, i_i2l, i_l2i, i_lbin, i_lcmp, i_if, i_icmp, i_dup, i_dup_x1, i_dup2, i_pop, i_geti, i_getr, i_getd, i_puti, i_putz, i_putd, i_iald, i_bald, i_aald, i_iast, i_bast, i_alen, i_keep, i_ret, i_retz, i_reta, i_retl, i_retv, i_callv, i_callk, i_calls, i_mm, i_copy, i_under, i_undld, i_ldcs, i_sw, q_swc0, q_swc1, q_lg0, q_lg1, q_lent0, q_lent1, lset, lset2, q_lins0, q_lins1, q_ldel0, q_ldel1, q_ldel20, q_ldel21, q_lkeep0, q_lkeep1, q_memb0, q_memb1, cat2, Nat.reduceBEq, decide_true, decide_false, decide_eq_true_eq, cond_true, cond_false, Bool.and_true, Bool.and_false, Bool.true_and, Bool.false_and, f_iadd, f_isub, f_imul, f_ishl, f_ishr, f_iushr, f_iand, f_ior, f_idiv, f_irem, f_ineg, f_i2b, f_i2s, f_ladd, f_lmul, c_eq, c_ne, c_lt, c_ge, c_gt, c_le, cc_eq, cc_ne, cc_lt, cc_ge, cc_gt, cc_le, rfo, aof, csum, Value.category, List.take, List.drop, List.reverse, List.reverseAux, List.map, List.sum_cons, List.sum_nil, List.cons_append, List.nil_append, Option.toList, List.mem_cons, List.not_mem_nil, List.length_cons, List.length_nil, reduceIte, Nat.reduceEqDiff, Nat.reduceAdd, Nat.reduceLeDiff, Nat.reduceLT, a_day, Nat.zero_ne_one, Nat.one_ne_zero, false_and, and_false, true_and, and_true, or_false, false_or, or_true, true_or, not_true_eq_false, not_false_eq_true, Nat.zero_add, Nat.add_zero, Nat.le_refl, Nat.lt_irrefl, Nat.zero_lt_succ, Nat.zero_le, forall_const, List.cons.injEq, Value.int.injEq, Value.ref.injEq, Value.long.injEq, and_assoc, exists_and_left, exists_eq_left']
    try simp only [forall_eq]
    refine ⟨fun z => hf (fun q => b2n z q.1.1), fun z1 => ?_⟩
    subst hB12
    unfold BX5_thread_12
    generalize hB19 : BX5_thread_19 g Q (T_X5_isSeam g) (T_X5_isDays g) (T_X5_isAsked g) (T_X0_become g) (T_X0_wearOn g) (T_X0_worth g) E34 (fun _ _ _ => False) = B19
    simp only [T_X5_isSeam, T_X5_isDays, T_X5_isAsked, T_X0_become, T_X0_wearOn, T_X0_worth, i_const, i_lconst, i_iload, i_aload, i_lload, i_istore, i_astore, i_lstore, i_iinc, i_bin, i_div, i_un, i_i2l, i_l2i, i_lbin, i_lcmp, i_if, i_icmp, i_dup, i_dup_x1, i_dup2, i_pop, i_geti, i_getr, i_getd, i_puti, i_putz, i_putd, i_iald, i_bald, i_aald, i_iast, i_bast, i_alen, i_keep, i_ret, i_retz, i_reta, i_retl, i_retv, i_callv, i_callk, i_calls, i_mm, i_copy, i_under, i_undld, i_ldcs, i_sw, q_swc0, q_swc1, q_lg0, q_lg1, q_lent0, q_lent1, lset, lset2, q_lins0, q_lins1, q_ldel0, q_ldel1, q_ldel20, q_ldel21, q_lkeep0, q_lkeep1, q_memb0, q_memb1, cat2, Nat.reduceBEq, decide_true, decide_false, decide_eq_true_eq, cond_true, cond_false, Bool.and_true, Bool.and_false, Bool.true_and, Bool.false_and, f_iadd, f_isub, f_imul, f_ishl, f_ishr, f_iushr, f_iand, f_ior, f_idiv, f_irem, f_ineg, f_i2b, f_i2s, f_ladd, f_lmul, c_eq, c_ne, c_lt, c_ge, c_gt, c_le, cc_eq, cc_ne, cc_lt, cc_ge, cc_gt, cc_le, rfo, aof, csum, Value.category, List.take, List.drop, List.reverse, List.reverseAux, List.map, List.sum_cons, List.sum_nil, List.cons_append, List.nil_append, Option.toList, List.mem_cons, List.not_mem_nil, List.length_cons, List.length_nil, reduceIte, Nat.reduceEqDiff, Nat.reduceAdd, Nat.reduceLeDiff, Nat.reduceLT, a_day, Nat.zero_ne_one, Nat.one_ne_zero, false_and, and_false, true_and, and_true, or_false, false_or, or_true, true_or, not_true_eq_false, not_false_eq_true, Nat.zero_add, Nat.add_zero, Nat.le_refl, Nat.lt_irrefl, Nat.zero_lt_succ, Nat.zero_le, forall_const, List.cons.injEq, Value.int.injEq, Value.ref.injEq, Value.long.injEq, and_assoc, exists_and_left, exists_eq_left']
    try simp only [forall_eq]
    refine ⟨fun z => hf (fun q => b2n z q.1.2), fun z2 => ?_⟩
    subst hB19
    unfold BX5_thread_19
    simp only [T_X5_isSeam, T_X5_isDays, T_X5_isAsked, T_X0_become, T_X0_wearOn, T_X0_worth, i_const, i_lconst, i_iload, i_aload, i_lload, i_istore, i_astore, i_lstore, i_iinc, i_bin, i_div, i_un, i_i2l, i_l2i, i_lbin, i_lcmp, i_if, i_icmp, i_dup, i_dup_x1, i_dup2, i_pop, i_geti, i_getr, i_getd, i_puti, i_putz, i_putd, i_iald, i_bald, i_aald, i_iast, i_bast, i_alen, i_keep, i_ret, i_retz, i_reta, i_retl, i_retv, i_callv, i_callk, i_calls, i_mm, i_copy, i_under, i_undld, i_ldcs, i_sw, q_swc0, q_swc1, q_lg0, q_lg1, q_lent0, q_lent1, lset, lset2, q_lins0, q_lins1, q_ldel0, q_ldel1, q_ldel20, q_ldel21, q_lkeep0, q_lkeep1, q_memb0, q_memb1, cat2, Nat.reduceBEq, decide_true, decide_false, decide_eq_true_eq, cond_true, cond_false, Bool.and_true, Bool.and_false, Bool.true_and, Bool.false_and, f_iadd, f_isub, f_imul, f_ishl, f_ishr, f_iushr, f_iand, f_ior, f_idiv, f_irem, f_ineg, f_i2b, f_i2s, f_ladd, f_lmul, c_eq, c_ne, c_lt, c_ge, c_gt, c_le, cc_eq, cc_ne, cc_lt, cc_ge, cc_gt, cc_le, rfo, aof, csum, Value.category, List.take, List.drop, List.reverse, List.reverseAux, List.map, List.sum_cons, List.sum_nil, List.cons_append, List.nil_append, Option.toList, List.mem_cons, List.not_mem_nil, List.length_cons, List.length_nil, reduceIte, Nat.reduceEqDiff, Nat.reduceAdd, Nat.reduceLeDiff, Nat.reduceLT, a_day, Nat.zero_ne_one, Nat.one_ne_zero, false_and, and_false, true_and, and_true, or_false, false_or, or_true, true_or, not_true_eq_false, not_false_eq_true, Nat.zero_add, Nat.add_zero, Nat.le_refl, Nat.lt_irrefl, Nat.zero_lt_succ, Nat.zero_le, forall_const, List.cons.injEq, Value.int.injEq, Value.ref.injEq, Value.long.injEq, and_assoc, exists_and_left, exists_eq_left']
    try simp only [forall_eq]
    refine ⟨fun z3 => ?_, fun z => hf (fun q => b2n (Decidable.not_not.mp z) q.2)⟩
    obtain ⟨c1a, c1b⟩ := b2t z1
    obtain ⟨c2a, c2b⟩ := b2t z2
    obtain ⟨sx, hs31, hse⟩ := nI_of (i_not_lt.mpr c1a)
    obtain ⟨nn, hn31, hne⟩ := nI_of (i_not_lt.mpr c2a)
    rw [hse] at c1b
    have hsx : sx < dn D := (nI_ltI hs31 (by omega)).mp c1b
    rw [hne] at c2b
    have hnn : nn ≤ 40 := (nI_leI (b := 40) hn31 (by decide)).mp c2b
    refine iE34 (6 - 0) _ _ _ ?_
    rw [hI34]
    exact ⟨0, sx, nn, hsx, hnn, hse, hne, b2t z3, by rw [← hse, ← hne]; rfl, rfl, by omega, rfl, Sm.rf⟩
def T_X5_move (g : WG) (as : List Value) (M : MM) (Q : Option Value → MM → Prop) : Prop := ∃ s w, as = [.ref 0, .int s, .int w] ∧ okD M 40 ∧ ∀ M', Sm YC M M' → Q (some (.int (mvA (xc M) (dv M 40) s w))) M'
set_option maxRecDepth 100000 in
set_option maxHeartbeats 2000000 in
theorem t_X5_move {l : Launch} {g : WG} (hg : Full g) : Ct l g yX5_move cX5_move 7 ((Option.some FieldType.int)) 7 (T_X5_move g) := by
  refine Ct.of (by decide) (fun as M Q h => ?_) (fun p e s m args below meth c as M Q h C => ?_)
  · obtain ⟨s0, w, rfl, ho, h⟩ := h; exact ⟨by simp, by simp [Value.category]⟩
  · obtain ⟨s0, w, rfl, ho, h⟩ := h
    have hn := ho.n
    have hmany := ho.many
    obtain ⟨-, Tn, hwf, htx⟩ := id ho
    obtain ⟨D, hDe⟩ : ∃ D, dv M 40 = D := ⟨_, rfl⟩
    obtain ⟨X, hXe⟩ : ∃ X, xc M = X := ⟨_, rfl⟩
    rw [hDe] at hn hwf hmany
    rw [hDe, hXe] at h
    have hT := hwf.2.2.2.2
    have hf := fun (c1 : ¬ ((0 ≤ s0 ∧ s0 < nI (dn D)) ∧ (0 ≤ w ∧ w ≤ 1))) => by
      have := h M Sm.rf
      rwa [mvA, if_neg c1] at this
    have keep : ∀ M', Sm YC M M' → okD M' 40 ∧ dv M' 40 = D := fun M' hs => by
      have e := dv_C hs (by rw [hDe]; exact hn)
      exact ⟨okC_to D40 hs (e.trans hDe) hwf htx, e.trans hDe⟩
    obtain ⟨I26, hI26⟩ : ∃ I : Nat → PP, I = (fun n lv st M' => ∃ k sx, sx < dn D ∧ s0 = nI sx ∧ (0 ≤ w ∧ w ≤ 1) ∧ lv = [(0, .ref 0), (1, .int (nI sx)), (2, .int w), (3, .int (mvN X D sx k).1), (4, .int (mvN X D sx k).2), (5, .int (nI k))] ∧ st = [] ∧ k ≤ 16 ∧ n = 16 - k ∧ Sm YC M M') := ⟨_, rfl⟩
    obtain ⟨E26, hE26⟩ : ∃ E : PP, E = (fun lv st M => ∃ n, I26 n lv st M) := ⟨_, rfl⟩
    have iE26 : ∀ n lv st M, I26 n lv st M → E26 lv st M := fun n lv st M h => by rw [hE26]; exact ⟨n, h⟩
    have L26 : Sj p l e 7 s m args below meth c 7 g (MQ below (cQc g Q) args s 0 0 (gA g)) 26 E26 := by
      rw [hE26]
      refine s_ex (s_loop I26 (fun K26 k26 => WX5_move_26 C (t_X5_isSeam hg) (by decide) (t_X5_isAsked hg) (by decide) (t_X0_become hg) (by decide) (t_X1_shift hg) (by decide) (t_X0_worth hg) (by decide) k26) ?_)
      intro n lv st M1 K26 hK26 hI; rw [hI26] at hI; obtain ⟨k, sx, hsx, hse, hw01, rfl, rfl, hk, rfl, hs⟩ := hI
      unfold BX5_move_26
      generalize hB44 : BX5_move_44 g Q (T_X5_isSeam g) (T_X5_isAsked g) (T_X0_become g) (T_X1_shift g) (T_X0_worth g) K26 = B44
      generalize hB92 : BX5_move_92 g Q (T_X5_isSeam g) (T_X5_isAsked g) (T_X0_become g) (T_X1_shift g) (T_X0_worth g) K26 = B92
      simp only [T_X5_isSeam, T_X5_isAsked, T_X0_become, T_X1_shift, T_X0_worth, i_const, i_lconst, i_iload, i_aload, i_lload, i_istore, i_astore, i_lstore, i_iinc, i_bin, i_div, i_un, i_i2l, i_l2i, i_lbin, i_lcmp, i_if, i_icmp, i_dup, i_dup_x1, i_dup2, i_pop, i_geti, i_getr, i_getd, i_puti, i_putz, i_putd, i_iald, i_bald, i_aald, i_iast, i_bast, i_alen, i_keep, i_ret, i_retz, i_reta, i_retl, i_retv, i_callv, i_callk, i_calls, i_mm, i_copy, i_under, i_undld, i_ldcs, i_sw, q_swc0, q_swc1, q_lg0, q_lg1, q_lent0, q_lent1, lset, lset2, q_lins0, q_lins1, q_ldel0, q_ldel1, q_ldel20, q_ldel21, q_lkeep0, q_lkeep1, q_memb0, q_memb1, cat2, Nat.reduceBEq, decide_true, decide_false, decide_eq_true_eq, cond_true, cond_false, Bool.and_true, Bool.and_false, Bool.true_and, Bool.false_and, f_iadd, f_isub, f_imul, f_ishl, f_ishr, f_iushr, f_iand, f_ior, f_idiv, f_irem, f_ineg, f_i2b, f_i2s, f_ladd, f_lmul, c_eq, c_ne, c_lt, c_ge, c_gt, c_le, cc_eq, cc_ne, cc_lt, cc_ge, cc_gt, cc_le, rfo, aof, csum, Value.category, List.take, List.drop, List.reverse, List.reverseAux, List.map, List.sum_cons, List.sum_nil, List.cons_append, List.nil_append, Option.toList, List.mem_cons, List.not_mem_nil, List.length_cons, List.length_nil, reduceIte, Nat.reduceEqDiff, Nat.reduceAdd, Nat.reduceLeDiff, Nat.reduceLT, a_day, Nat.zero_ne_one, Nat.one_ne_zero, false_and, and_false, true_and, and_true, or_false, false_or, or_true, true_or, not_true_eq_false, not_false_eq_true, Nat.zero_add, Nat.add_zero, Nat.le_refl, Nat.lt_irrefl, Nat.zero_lt_succ, Nat.zero_le, forall_const, List.cons.injEq, Value.int.injEq, Value.ref.injEq, Value.long.injEq, and_assoc, exists_and_left, exists_eq_left']
      try simp only [forall_eq]
      rw [show (16 : Int32) = nI 16 from rfl, nI_leI (by decide) (by omega)]
      obtain ⟨ho1, hd1⟩ := keep M1 hs
      refine ⟨fun z => ?_, fun z => ⟨c_0 hg, c_0 hg, (c_52 hg).1, (c_52 hg).2.1, D52, ho1, fun M2 hs2 hd2 => ?_⟩⟩
      · have : k = 16 := by omega
        subst this
        subst hB92
        unfold BX5_move_92
        simp only [T_X5_isSeam, T_X5_isAsked, T_X0_become, T_X1_shift, T_X0_worth, i_const, i_lconst, i_iload, i_aload, i_lload, i_istore, i_astore, i_lstore, i_iinc, i_bin, i_div, i_un, i_i2l, i_l2i, i_lbin, i_lcmp, i_if, i_icmp, i_dup, i_dup_x1, i_dup2, i_pop, i_geti, i_getr, i_getd, i_puti, i_putz, i_putd, i_iald, i_bald, i_aald, i_iast, i_bast, i_alen, i_keep, i_ret, i_retz, i_reta, i_retl, i_retv, i_callv, i_callk, i_calls, i_mm, i_copy, i_under, i_undld, i_ldcs, i_sw, q_swc0, q_swc1, q_lg0, q_lg1, q_lent0, q_lent1, lset, lset2, q_lins0, q_lins1, q_ldel0, q_ldel1, q_ldel20, q_ldel21, q_lkeep0, q_lkeep1, q_memb0, q_memb1, cat2, Nat.reduceBEq, decide_true, decide_false, decide_eq_true_eq, cond_true, cond_false, Bool.and_true, Bool.and_false, Bool.true_and, Bool.false_and, f_iadd, f_isub, f_imul, f_ishl, f_ishr, f_iushr, f_iand, f_ior, f_idiv, f_irem, f_ineg, f_i2b, f_i2s, f_ladd, f_lmul, c_eq, c_ne, c_lt, c_ge, c_gt, c_le, cc_eq, cc_ne, cc_lt, cc_ge, cc_gt, cc_le, rfo, aof, csum, Value.category, List.take, List.drop, List.reverse, List.reverseAux, List.map, List.sum_cons, List.sum_nil, List.cons_append, List.nil_append, Option.toList, List.mem_cons, List.not_mem_nil, List.length_cons, List.length_nil, reduceIte, Nat.reduceEqDiff, Nat.reduceAdd, Nat.reduceLeDiff, Nat.reduceLT, a_day, Nat.zero_ne_one, Nat.one_ne_zero, false_and, and_false, true_and, and_true, or_false, false_or, or_true, true_or, not_true_eq_false, not_false_eq_true, Nat.zero_add, Nat.add_zero, Nat.le_refl, Nat.lt_irrefl, Nat.zero_lt_succ, Nat.zero_le, forall_const, List.cons.injEq, Value.int.injEq, Value.ref.injEq, Value.long.injEq, and_assoc, exists_and_left, exists_eq_left']
        try simp only [forall_eq]
        have hfin := h M1 hs
        rw [mvA, if_pos ⟨⟨by rw [hse]; exact nI_pos' (by omega), by rw [hse]; exact (nI_ltI (by omega) (by omega)).mpr hsx⟩, hw01⟩, hse, nI_clamp (by omega)] at hfin
        unfold sel at hfin
        refine ⟨fun y => ?_, fun y => ?_⟩
        · rwa [if_neg y] at hfin
        · rwa [if_pos (Decidable.not_not.mp y)] at hfin
      · have hk16 : k < 16 := by omega
        rw [hd1] at hd2
        have so : okq g 1 (57 + sx) := seam_ok (q := 52) (s := sx) hg D52 (by omega)
        have hsx2 : sx < dn (dv M2 52) := by rw [hd2]; exact hsx
        obtain ⟨w1, w2, w3, w4, -⟩ := hwf.2.2.1 sx hsx
        have e2 : M2 (57 + sx) 2 = nI (fi D sx) := by rw [← w1, ← hd2]; exact (dv_s (q := 52) 2 (by decide) hsx2).symm
        have e3 : M2 (57 + sx) 3 = nI (la D sx) := by rw [← w2, ← hd2]; exact (dv_s (q := 52) 3 (by decide) hsx2).symm
        subst hB44
        unfold BX5_move_44
        generalize hB58 : BX5_move_58 g Q (T_X5_isSeam g) (T_X5_isAsked g) (T_X0_become g) (T_X1_shift g) (T_X0_worth g) K26 = B58
        simp only [T_X5_isSeam, T_X5_isAsked, T_X0_become, T_X1_shift, T_X0_worth, i_const, i_lconst, i_iload, i_aload, i_lload, i_istore, i_astore, i_lstore, i_iinc, i_bin, i_div, i_un, i_i2l, i_l2i, i_lbin, i_lcmp, i_if, i_icmp, i_dup, i_dup_x1, i_dup2, i_pop, i_geti, i_getr, i_getd, i_puti, i_putz, i_putd, i_iald, i_bald, i_aald, i_iast, i_bast, i_alen, i_keep, i_ret, i_retz, i_reta, i_retl, i_retv, i_callv, i_callk, i_calls, i_mm, i_copy, i_under, i_undld, i_ldcs, i_sw, q_swc0, q_swc1, q_lg0, q_lg1, q_lent0, q_lent1, lset, lset2, q_lins0, q_lins1, q_ldel0, q_ldel1, q_ldel20, q_ldel21, q_lkeep0, q_lkeep1, q_memb0, q_memb1, cat2, Nat.reduceBEq, decide_true, decide_false, decide_eq_true_eq, cond_true, cond_false, Bool.and_true, Bool.and_false, Bool.true_and, Bool.false_and, f_iadd, f_isub, f_imul, f_ishl, f_ishr, f_iushr, f_iand, f_ior, f_idiv, f_irem, f_ineg, f_i2b, f_i2s, f_ladd, f_lmul, c_eq, c_ne, c_lt, c_ge, c_gt, c_le, cc_eq, cc_ne, cc_lt, cc_ge, cc_gt, cc_le, rfo, aof, csum, Value.category, List.take, List.drop, List.reverse, List.reverseAux, List.map, List.sum_cons, List.sum_nil, List.cons_append, List.nil_append, Option.toList, List.mem_cons, List.not_mem_nil, List.length_cons, List.length_nil, reduceIte, Nat.reduceEqDiff, Nat.reduceAdd, Nat.reduceLeDiff, Nat.reduceLT, a_day, Nat.zero_ne_one, Nat.one_ne_zero, false_and, and_false, true_and, and_true, or_false, false_or, or_true, true_or, not_true_eq_false, not_false_eq_true, Nat.zero_add, Nat.add_zero, Nat.le_refl, Nat.lt_irrefl, Nat.zero_lt_succ, Nat.zero_le, forall_const, List.cons.injEq, Value.int.injEq, Value.ref.injEq, Value.long.injEq, and_assoc, exists_and_left, exists_eq_left']
        try simp only [forall_eq]
        rw [nI_clamp (by omega), e2, e3, sh_eq w3 w4 hk16]
        have hd3 : dv (mset (mset M2 (57 + sx) 2 (nI k)) (57 + sx) 3 (nI (shfL D sx k))) 52 = shfD D sx k := by
          have d1 : dv (mset M2 (57 + sx) 2 (nI k)) 52 = upF (dv M2 52) 3 sx (nI k) := dv_set (q := 52) (j := 2) (by decide) hsx2
          have hn2 : sx < dn (dv (mset M2 (57 + sx) 2 (nI k)) 52) := by rw [d1]; unfold dn; rw [upF_ne (by decide)]; exact hsx2
          have d2 := dv_set (q := 52) (j := 3) (x := nI (shfL D sx k)) (by decide) hn2
          rw [d1, hd2] at d2
          exact d2
        have hs3 : Sm YC M (mset (mset M2 (57 + sx) 2 (nI k)) (57 + sx) 3 (nI (shfL D sx k))) := ((hs.tr (Sm_YC hs2)).set _ (Or.inl (Or.inl (by omega)))).set _ (Or.inl (Or.inl (by omega)))
        have hwf2 : wfD (shfD D sx k) Tn := wfD_shf hwf hk16
        have ko := okC_to D52 hs3 hd3 hwf2 htx
        have kx : EQ X (xc (mset (mset M2 (57 + sx) 2 (nI k)) (57 + sx) 3 (nI (shfL D sx k)))) (shfD D sx k) := by
          have := (AG_C hs3 hT).eq hwf2
          rwa [hXe] at this
        refine ⟨c_0 hg, c_52 hg, okR hg (by decide) (by decide) rfl, vp_in_nI (n := sx) (N := 7) (by omega) (by decide), so.1, so.2.1, so, ?_⟩
        subst hB58
        unfold BX5_move_58
        generalize hB65 : BX5_move_65 g Q (T_X5_isSeam g) (T_X5_isAsked g) (T_X0_become g) (T_X1_shift g) (T_X0_worth g) K26 = B65
        simp only [T_X5_isSeam, T_X5_isAsked, T_X0_become, T_X1_shift, T_X0_worth, i_const, i_lconst, i_iload, i_aload, i_lload, i_istore, i_astore, i_lstore, i_iinc, i_bin, i_div, i_un, i_i2l, i_l2i, i_lbin, i_lcmp, i_if, i_icmp, i_dup, i_dup_x1, i_dup2, i_pop, i_geti, i_getr, i_getd, i_puti, i_putz, i_putd, i_iald, i_bald, i_aald, i_iast, i_bast, i_alen, i_keep, i_ret, i_retz, i_reta, i_retl, i_retv, i_callv, i_callk, i_calls, i_mm, i_copy, i_under, i_undld, i_ldcs, i_sw, q_swc0, q_swc1, q_lg0, q_lg1, q_lent0, q_lent1, lset, lset2, q_lins0, q_lins1, q_ldel0, q_ldel1, q_ldel20, q_ldel21, q_lkeep0, q_lkeep1, q_memb0, q_memb1, cat2, Nat.reduceBEq, decide_true, decide_false, decide_eq_true_eq, cond_true, cond_false, Bool.and_true, Bool.and_false, Bool.true_and, Bool.false_and, f_iadd, f_isub, f_imul, f_ishl, f_ishr, f_iushr, f_iand, f_ior, f_idiv, f_irem, f_ineg, f_i2b, f_i2s, f_ladd, f_lmul, c_eq, c_ne, c_lt, c_ge, c_gt, c_le, cc_eq, cc_ne, cc_lt, cc_ge, cc_gt, cc_le, rfo, aof, csum, Value.category, List.take, List.drop, List.reverse, List.reverseAux, List.map, List.sum_cons, List.sum_nil, List.cons_append, List.nil_append, Option.toList, List.mem_cons, List.not_mem_nil, List.length_cons, List.length_nil, reduceIte, Nat.reduceEqDiff, Nat.reduceAdd, Nat.reduceLeDiff, Nat.reduceLT, a_day, Nat.zero_ne_one, Nat.one_ne_zero, false_and, and_false, true_and, and_true, or_false, false_or, or_true, true_or, not_true_eq_false, not_false_eq_true, Nat.zero_add, Nat.add_zero, Nat.le_refl, Nat.lt_irrefl, Nat.zero_lt_succ, Nat.zero_le, forall_const, List.cons.injEq, Value.int.injEq, Value.ref.injEq, Value.long.injEq, and_assoc, exists_and_left, exists_eq_left']
        try simp only [forall_eq]
        refine ⟨c_0 hg, (c_52 hg).1, (c_52 hg).2.1, ko, fun M3 hs4 => ?_⟩
        have hw : wor (xc (mset (mset M2 (57 + sx) 2 (nI k)) (57 + sx) 3 (nI (shfL D sx k)))) (dv (mset (mset M2 (57 + sx) 2 (nI k)) (57 + sx) 3 (nI (shfL D sx k))) 52) = wor X (shfD D sx k) := by rw [hd3, wor_e kx]
        have fin : ∀ x y, (x, y) = mvN X D sx (k + 1) → K26 [(0, .ref 0), (1, .int (nI sx)), (2, .int w), (3, .int x), (4, .int y), (5, .int (nI (k + 1)))] [] M3 := by
          intro x y hxy
          refine hK26 (16 - (k + 1)) _ _ _ (by omega) ?_
          rw [hI26]
          exact ⟨k + 1, sx, hsx, hse, hw01, by rw [← hxy], rfl, by omega, rfl, hs3.tr (hs4.mono fun a b q => Or.inl (XP_D q))⟩
        simp only [mvN, cup1] at fin
        have go : ((mvN X D sx k).2 = -1 ∨ (mvN X D sx k).1 < wor X (shfD D sx k)) → BX5_move_79 g Q (T_X5_isSeam g) (T_X5_isAsked g) (T_X0_become g) (T_X1_shift g) (T_X0_worth g) K26 [(0, .ref 0), (1, .int (nI sx)), (2, .int w), (3, .int (mvN X D sx k).1), (4, .int (mvN X D sx k).2), (5, .int (nI k)), (6, .int (wor X (shfD D sx k)))] [] M3 := by
          intro c
          unfold BX5_move_79
          simp only [i_const, i_lconst, i_iload, i_aload, i_lload, i_istore, i_astore, i_lstore, i_iinc, i_bin, i_div, i_un, i_i2l, i_l2i, i_lbin, i_lcmp, i_if, i_icmp, i_dup, i_dup_x1, i_dup2, i_pop, i_geti, i_getr, i_getd, i_puti, i_putz, i_putd, i_iald, i_bald, i_aald, i_iast, i_bast, i_alen, i_keep, i_ret, i_retz, i_reta, i_retl, i_retv, i_callv, i_callk, i_calls, i_mm, i_copy, i_under, i_undld, i_ldcs, i_sw, q_swc0, q_swc1, q_lg0, q_lg1, q_lent0, q_lent1, lset, lset2, q_lins0, q_lins1, q_ldel0, q_ldel1, q_ldel20, q_ldel21, q_lkeep0, q_lkeep1, q_memb0, q_memb1, cat2, Nat.reduceBEq, decide_true, decide_false, decide_eq_true_eq, cond_true, cond_false, Bool.and_true, Bool.and_false, Bool.true_and, Bool.false_and, f_iadd, f_isub, f_imul, f_ishl, f_ishr, f_iushr, f_iand, f_ior, f_idiv, f_irem, f_ineg, f_i2b, f_i2s, f_ladd, f_lmul, c_eq, c_ne, c_lt, c_ge, c_gt, c_le, cc_eq, cc_ne, cc_lt, cc_ge, cc_gt, cc_le, rfo, aof, csum, Value.category, List.take, List.drop, List.reverse, List.reverseAux, List.map, List.sum_cons, List.sum_nil, List.cons_append, List.nil_append, Option.toList, List.mem_cons, List.not_mem_nil, List.length_cons, List.length_nil, reduceIte, Nat.reduceEqDiff, Nat.reduceAdd, Nat.reduceLeDiff, Nat.reduceLT, a_day, Nat.zero_ne_one, Nat.one_ne_zero, false_and, and_false, true_and, and_true, or_false, false_or, or_true, true_or, not_true_eq_false, not_false_eq_true, Nat.zero_add, Nat.add_zero, Nat.le_refl, Nat.lt_irrefl, Nat.zero_lt_succ, Nat.zero_le, forall_const, List.cons.injEq, Value.int.injEq, Value.ref.injEq, Value.long.injEq, and_assoc, exists_and_left, exists_eq_left', forall_eq]
          rw [nI_1]
          exact fin _ _ (by rw [if_pos c])
        subst hB65
        unfold BX5_move_65
        generalize hB79 : BX5_move_79 g Q (T_X5_isSeam g) (T_X5_isAsked g) (T_X0_become g) (T_X1_shift g) (T_X0_worth g) K26 = B79
        simp only [T_X5_isSeam, T_X5_isAsked, T_X0_become, T_X1_shift, T_X0_worth, i_const, i_lconst, i_iload, i_aload, i_lload, i_istore, i_astore, i_lstore, i_iinc, i_bin, i_div, i_un, i_i2l, i_l2i, i_lbin, i_lcmp, i_if, i_icmp, i_dup, i_dup_x1, i_dup2, i_pop, i_geti, i_getr, i_getd, i_puti, i_putz, i_putd, i_iald, i_bald, i_aald, i_iast, i_bast, i_alen, i_keep, i_ret, i_retz, i_reta, i_retl, i_retv, i_callv, i_callk, i_calls, i_mm, i_copy, i_under, i_undld, i_ldcs, i_sw, q_swc0, q_swc1, q_lg0, q_lg1, q_lent0, q_lent1, lset, lset2, q_lins0, q_lins1, q_ldel0, q_ldel1, q_ldel20, q_ldel21, q_lkeep0, q_lkeep1, q_memb0, q_memb1, cat2, Nat.reduceBEq, decide_true, decide_false, decide_eq_true_eq, cond_true, cond_false, Bool.and_true, Bool.and_false, Bool.true_and, Bool.false_and, f_iadd, f_isub, f_imul, f_ishl, f_ishr, f_iushr, f_iand, f_ior, f_idiv, f_irem, f_ineg, f_i2b, f_i2s, f_ladd, f_lmul, c_eq, c_ne, c_lt, c_ge, c_gt, c_le, cc_eq, cc_ne, cc_lt, cc_ge, cc_gt, cc_le, rfo, aof, csum, Value.category, List.take, List.drop, List.reverse, List.reverseAux, List.map, List.sum_cons, List.sum_nil, List.cons_append, List.nil_append, Option.toList, List.mem_cons, List.not_mem_nil, List.length_cons, List.length_nil, reduceIte, Nat.reduceEqDiff, Nat.reduceAdd, Nat.reduceLeDiff, Nat.reduceLT, a_day, Nat.zero_ne_one, Nat.one_ne_zero, false_and, and_false, true_and, and_true, or_false, false_or, or_true, true_or, not_true_eq_false, not_false_eq_true, Nat.zero_add, Nat.add_zero, Nat.le_refl, Nat.lt_irrefl, Nat.zero_lt_succ, Nat.zero_le, forall_const, List.cons.injEq, Value.int.injEq, Value.ref.injEq, Value.long.injEq, and_assoc, exists_and_left, exists_eq_left']
        try simp only [forall_eq]
        unfold shfL at hw
        rw [hw, nI_1]
        refine ⟨fun y => ?_, fun y => ⟨fun u => ?_, fun u => ?_⟩⟩
        · subst_vars; exact go (Or.inl y)
        · exact fin _ _ (by rw [if_neg (fun q => q.elim y (fun q => i_not_lt.mpr u q))])
        · subst_vars; exact go (Or.inr (i_not_le.mp u))
      
    refine s_of (fun lv st M0 hs => ?_) (WX5_move_0 C (t_X5_isSeam hg) (by decide) (t_X5_isAsked hg) (by decide) (t_X0_become hg) (by decide) (t_X1_shift hg) (by decide) (t_X0_worth hg) (by decide) L26)
    obtain ⟨rfl, rfl, rfl⟩ := hs
    unfold BX5_move_0
    generalize hB5 : BX5_move_5 g Q (T_X5_isSeam g) (T_X5_isAsked g) (T_X0_become g) (T_X1_shift g) (T_X0_worth g) E26 = B5
    simp only [T_X5_isSeam, T_X5_isAsked, T_X0_become, T_X1_shift, T_X0_worth, i_const, i_lconst, i_iload, i_aload, i_lload, i_istore, i_astore, i_lstore, i_iinc, i_bin, i_div, i_un, i_i2l, i_l2i, i_lbin, i_lcmp, i_if, i_icmp, i_dup, i_dup_x1, i_dup2, i_pop, i_geti, i_getr, i_getd, i_puti, i_putz, i_putd, i_iald, i_bald, i_aald, i_iast, i_bast, i_alen, i_keep, i_ret, i_retz, i_reta, i_retl, i_retv, i_callv, i_callk, i_calls, i_mm, i_copy, i_under, i_undld, i_ldcs, i_sw, q_swc0, q_swc1, q_lg0, q_lg1, q_lent0, q_lent1, lset, lset2, q_lins0, q_lins1, q_ldel0, q_ldel1, q_ldel20, q_ldel21, q_lkeep0, q_lkeep1, q_memb0, q_memb1, cat2, Nat.reduceBEq, decide_true, decide_false, decide_eq_true_eq, cond_true, cond_false, Bool.and_true, Bool.and_false, Bool.true_and, Bool.false_and, f_iadd, f_isub, f_imul, f_ishl, f_ishr, f_iushr, f_iand, f_ior, f_idiv, f_irem, f_ineg, f_i2b, f_i2s, f_ladd, f_lmul, c_eq, c_ne, c_lt, c_ge, c_gt, c_le, cc_eq, cc_ne, cc_lt, cc_ge, cc_gt, cc_le, rfo, aof, csum, Value.category, List.take, List.drop, List.reverse, List.reverseAux, List.map, List.sum_cons, List.sum_nil, List.cons_append, List.nil_append, Option.toList, List.mem_cons, List.not_mem_nil, List.length_cons, List.length_nil, reduceIte, Nat.reduceEqDiff, Nat.reduceAdd, Nat.reduceLeDiff, Nat.reduceLT, a_day, Nat.zero_ne_one, Nat.one_ne_zero, false_and, and_false, true_and, and_true, or_false, false_or, or_true, true_or, not_true_eq_false, not_false_eq_true, Nat.zero_add, Nat.add_zero, Nat.le_refl, Nat.lt_irrefl, Nat.zero_lt_succ, Nat.zero_le, forall_const, List.cons.injEq, Value.int.injEq, Value.ref.injEq, Value.long.injEq, and_assoc, exists_and_left, exists_eq_left']
    try simp only [forall_eq]
    refine ⟨(c_0 hg).1, (c_0 hg).2.1, dn D, by omega, hmany, ?_⟩
    subst hB5
    unfold BX5_move_5
    generalize hB12 : BX5_move_12 g Q (T_X5_isSeam g) (T_X5_isAsked g) (T_X0_become g) (T_X1_shift g) (T_X0_worth g) E26 = B12
    simp only [T_X5_isSeam, T_X5_isAsked, T_X0_become, T_X1_shift, T_X0_worth, i_const, i_lconst, i_iload, i_aload, i_lload, i_istore, i_astore, i_lstore, i_iinc, i_bin, i_div, i_un, i_i2l, i_l2i, i_lbin, i_lcmp, i_if, i_icmp, i_dup, i_dup_x1, i_dup2, i_pop, i_geti, i_getr, i_getd, i_puti, i_putz, i_putd, i_iald, i_bald, i_aald, i_iast, i_bast, i_alen, i_keep, i_ret, i_retz, i_reta, i_retl, i_retv, i_callv, i_callk, i_calls, i_mm, i_copy, i_under, i_undld, i_ldcs, i_sw, q_swc0, q_swc1, q_lg0, q_lg1, q_lent0, q_lent1, lset, lset2, q_lins0, q_lins1, q_ldel0, q_ldel1, q_ldel20, q_ldel21, q_lkeep0, q_lkeep1, q_memb0, q_memb1, cat2, Nat.reduceBEq, decide_true, decide_false, decide_eq_true_eq, cond_true, cond_false, Bool.and_true, Bool.and_false, Bool.true_and, Bool.false_and, f_iadd, f_isub, f_imul, f_ishl, f_ishr, f_iushr, f_iand, f_ior, f_idiv, f_irem, f_ineg, f_i2b, f_i2s, f_ladd, f_lmul, c_eq, c_ne, c_lt, c_ge, c_gt, c_le, cc_eq, cc_ne, cc_lt, cc_ge, cc_gt, cc_le, rfo, aof, csum, Value.category, List.take, List.drop, List.reverse, List.reverseAux, List.map, List.sum_cons, List.sum_nil, List.cons_append, List.nil_append, Option.toList, List.mem_cons, List.not_mem_nil, List.length_cons, List.length_nil, reduceIte, Nat.reduceEqDiff, Nat.reduceAdd, Nat.reduceLeDiff, Nat.reduceLT, a_day, Nat.zero_ne_one, Nat.one_ne_zero, false_and, and_false, true_and, and_true, or_false, false_or, or_true, true_or, not_true_eq_false, not_false_eq_true, Nat.zero_add, Nat.add_zero, Nat.le_refl, Nat.lt_irrefl, Nat.zero_lt_succ, Nat.zero_le, forall_const, List.cons.injEq, Value.int.injEq, Value.ref.injEq, Value.long.injEq, and_assoc, exists_and_left, exists_eq_left']
    try simp only [forall_eq]
    refine ⟨fun z => hf (fun q => b2n z q.1), fun z1 => ?_⟩
    subst hB12
    unfold BX5_move_12
    simp only [T_X5_isSeam, T_X5_isAsked, T_X0_become, T_X1_shift, T_X0_worth, i_const, i_lconst, i_iload, i_aload, i_lload, i_istore, i_astore, i_lstore, i_iinc, i_bin, i_div, i_un, i_i2l, i_l2i, i_lbin, i_lcmp, i_if, i_icmp, i_dup, i_dup_x1, i_dup2, i_pop, i_geti, i_getr, i_getd, i_puti, i_putz, i_putd, i_iald, i_bald, i_aald, i_iast, i_bast, i_alen, i_keep, i_ret, i_retz, i_reta, i_retl, i_retv, i_callv, i_callk, i_calls, i_mm, i_copy, i_under, i_undld, i_ldcs, i_sw, q_swc0, q_swc1, q_lg0, q_lg1, q_lent0, q_lent1, lset, lset2, q_lins0, q_lins1, q_ldel0, q_ldel1, q_ldel20, q_ldel21, q_lkeep0, q_lkeep1, q_memb0, q_memb1, cat2, Nat.reduceBEq, decide_true, decide_false, decide_eq_true_eq, cond_true, cond_false, Bool.and_true, Bool.and_false, Bool.true_and, Bool.false_and, f_iadd, f_isub, f_imul, f_ishl, f_ishr, f_iushr, f_iand, f_ior, f_idiv, f_irem, f_ineg, f_i2b, f_i2s, f_ladd, f_lmul, c_eq, c_ne, c_lt, c_ge, c_gt, c_le, cc_eq, cc_ne, cc_lt, cc_ge, cc_gt, cc_le, rfo, aof, csum, Value.category, List.take, List.drop, List.reverse, List.reverseAux, List.map, List.sum_cons, List.sum_nil, List.cons_append, List.nil_append, Option.toList, List.mem_cons, List.not_mem_nil, List.length_cons, List.length_nil, reduceIte, Nat.reduceEqDiff, Nat.reduceAdd, Nat.reduceLeDiff, Nat.reduceLT, a_day, Nat.zero_ne_one, Nat.one_ne_zero, false_and, and_false, true_and, and_true, or_false, false_or, or_true, true_or, not_true_eq_false, not_false_eq_true, Nat.zero_add, Nat.add_zero, Nat.le_refl, Nat.lt_irrefl, Nat.zero_lt_succ, Nat.zero_le, forall_const, List.cons.injEq, Value.int.injEq, Value.ref.injEq, Value.long.injEq, and_assoc, exists_and_left, exists_eq_left']
    try simp only [forall_eq]
    refine ⟨fun z3 => ?_, fun z => hf (fun q => b2n (Decidable.not_not.mp z) q.2)⟩
    obtain ⟨c1a, c1b⟩ := b2t z1
    obtain ⟨sx, hs31, hse⟩ := nI_of (i_not_lt.mpr c1a)
    rw [hse] at c1b
    have hsx : sx < dn D := (nI_ltI hs31 (by omega)).mp c1b
    refine iE26 (16 - 0) _ _ _ ?_
    rw [hI26]
    exact ⟨0, sx, hsx, hse, b2t z3, by rw [← hse]; rfl, rfl, by omega, rfl, Sm.rf⟩
