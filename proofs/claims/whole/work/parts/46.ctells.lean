/-! ===== the class: tells ===== -/
theorem sheet_ok {g : WG} {i : Nat} (hg : Full g) (hi : i < 4) : okq g 2 (32 + 2 * i) ∧ okq g 7 (33 + 2 * i) ∧ ln (33 + 2 * i) = 40 := by
  have key : ∀ i, i < 4 → kd (32 + 2 * i) = 2 ∧ kd (33 + 2 * i) = 7 ∧ ln (33 + 2 * i) = 40 := by decide
  obtain ⟨a, b, c⟩ := key i hi
  exact ⟨okR hg (by omega) (by omega) a, okR hg (by omega) (by omega) b, c⟩
theorem dv_set4 {M : MM} {q : Nat} {x : Int32} : dv (mset M q 4 x) q = upF (dv M q) 7 2 x := by
  funext f i
  have a1 : ¬ q + 1 = q := by omega
  have a2 : ∀ i, ¬ q + 5 + i = q := by intro i; omega
  simp only [dv, upF, mset_app, a1, a2, if_false, if_true]
  by_cases h7 : f = 7
  · subst h7
    by_cases h1 : i = 2
    · subst h1; simp
    · simp [h1]
  · simp [h7]
theorem wfD_r2 {D : DV} {T t : Nat} (h : wfD D T) (ht : t < T) : wfD (upF D 7 2 (nI (8 + 4 * t))) T := by
  refine ⟨?_, ?_, fun k hk => ?_, ⟨t, ht, ?_⟩, h.2.2.2.2⟩
  · unfold dn; rw [upF_nk (by omega)]; exact h.1
  · unfold dn; rw [upF_nk (by omega)]; exact h.2.1
  · have hk2 : k < dn D := by unfold dn at hk ⊢; rwa [upF_nk (by omega)] at hk
    have := h.2.2.1 k hk2
    unfold wfS fi la at this ⊢
    rw [upF_ne (f := 3) (by omega), upF_ne (f := 4) (by omega), upF_ne (f := 5) (by omega), upF_ne (f := 6) (by omega), upF_ne (f := 1) (by omega), upF_ne (f := 2) (by omega)]
    exact this
  · rw [upF_s]
/-- how many are tried -/
def telM (T a : Nat) : Nat := if a = 0 then T else if a = 1 then 6 else if a = 2 then 10 else if a = 5 then 16 else 100
theorem wfD_tel {D : DV} {T a s v : Nat} (h : wfD D T) (hv : v < telM T a) : wfD (telF D a s v) T := by
  have hT := h.2.2.2.2
  unfold telM at hv
  unfold telF
  have wf : ∀ f, 0 < f → f < 6 → (¬ f = 3 ∧ ¬ f = 4) → (f = 1 → v < 6) → (f = 2 → v < 10) → (f = 5 → v < 100) → wfD (upF D f s (nI v)) T := fun f a1 a2 a3 a4 a5 a6 => wfD_f h a1 a2 a3 (fun q => ⟨v, a4 q, rfl⟩) (fun q => ⟨v, a5 q, rfl⟩) (fun q => ⟨v, by have := a6 q; omega, rfl⟩)
  by_cases e0 : a = 0
  · rw [if_pos e0] at hv ⊢; exact wfD_r2 h hv
  · rw [if_neg e0] at hv ⊢
    by_cases e1 : a = 1
    · rw [if_pos e1] at hv ⊢; exact wf 1 (by decide) (by decide) (by decide) (fun _ => hv) (fun q => absurd q (by decide)) (fun q => absurd q (by decide))
    · rw [if_neg e1] at hv ⊢
      by_cases e2 : a = 2
      · rw [if_pos e2] at hv ⊢; exact wf 2 (by decide) (by decide) (by decide) (fun q => absurd q (by decide)) (fun _ => hv) (fun q => absurd q (by decide))
      · rw [if_neg e2] at hv ⊢
        by_cases e5 : a = 5
        · rw [if_pos e5] at hv ⊢; exact wfD_shf h hv
        · rw [if_neg e5] at hv ⊢; exact wf 5 (by decide) (by decide) (by decide) (fun q => absurd q (by decide)) (fun q => absurd q (by decide)) (fun _ => hv)
def T_X5_otherwise (g : WG) (as : List Value) (M : MM) (Q : Option Value → MM → Prop) : Prop := ∃ (i n : Nat), as = [.ref 0, .ref (32 + 2 * i)] ∧ i < 4 ∧ M (32 + 2 * i) 2 = nI n ∧ n ≤ 40 ∧ okD M 52 ∧ ∀ M', Sm (XD 52) M M' → Q (some (.int (wrg (xc M) (dv M 52) (M (33 + 2 * i)) n 0))) M'
set_option maxRecDepth 100000 in
set_option maxHeartbeats 2000000 in
theorem t_X5_otherwise {l : Launch} {g : WG} (hg : Full g) : Ct l g yX5_otherwise cX5_otherwise 3 ((Option.some FieldType.int)) 7 (T_X5_otherwise g) := by
  refine Ct.of (by decide) (fun as M Q h => ?_) (fun p e s m args below meth c as M Q h C => ?_)
  · obtain ⟨i, nn, rfl, hi, hsz, h40, ho, h⟩ := h; exact ⟨by simp, by simp [Value.category]⟩
  · obtain ⟨i, nn, rfl, hi, hsz, h40, ho, h⟩ := h
    have hn := ho.n
    obtain ⟨-, Tn, hwf, htx⟩ := id ho
    obtain ⟨D, hDe⟩ : ∃ D, dv M 52 = D := ⟨_, rfl⟩
    obtain ⟨X, hXe⟩ : ∃ X, xc M = X := ⟨_, rfl⟩
    obtain ⟨c0, hc0⟩ : ∃ c0, M (33 + 2 * i) = c0 := ⟨_, rfl⟩
    rw [hDe] at hn hwf
    rw [hDe, hXe, hc0] at h
    have hT := hwf.2.2.2.2
    obtain ⟨s1, s2, s3⟩ := sheet_ok hg hi
    have key : ∀ M' : MM, Sm (XD 52) M M' → ∀ i, dv M' 52 = pasN X D i → okD M' 52 ∧ EQ X (xc M') (pasN X D i) := by
      intro M' hs i hd
      have w2 := wfD_pasN (X := X) hwf i
      refine ⟨okC_to D52 (Sm_YC hs) hd w2 htx, ?_⟩
      have := (AG_C (Sm_YC hs) hT).eq w2
      rwa [hXe] at this
    have row : ∀ M' : MM, Sm (XD 52) M M' → M' (32 + 2 * i) 2 = nI nn ∧ M' (33 + 2 * i) = c0 := fun M' hs => ⟨by rw [hs _ _ (by unfold XD isPile; omega)]; exact hsz, by rw [← hc0]; funext j; exact hs _ _ (by unfold XD isPile; omega)⟩
    obtain ⟨I2, hI2⟩ : ∃ I : Nat → PP, I = (fun n lv st M' => ∃ k, lv = [(0, .ref 0), (1, .ref (32 + 2 * i)), (2, .int (nI k))] ∧ st = [] ∧ k ≤ nn ∧ n = nn - k ∧ Sm (XD 52) M M' ∧ dv M' 52 = pasN X D (k - 1) ∧ wrg X D c0 (nn - k) k = wrg X D c0 nn 0) := ⟨_, rfl⟩
    obtain ⟨E2, hE2⟩ : ∃ E : PP, E = (fun lv st M => ∃ n, I2 n lv st M) := ⟨_, rfl⟩
    have iE2 : ∀ n lv st M, I2 n lv st M → E2 lv st M := fun n lv st M h => by rw [hE2]; exact ⟨n, h⟩
    have L2 : Sj p l e 7 s m args below meth c 3 g (MQ below (cQc g Q) args s 0 0 (gA g)) 2 E2 := by
      rw [hE2]
      refine s_ex (s_loop I2 (fun K2 k2 => WX5_otherwise_2 C (t_X0_wearOn hg) (by decide) (t_X0_worth hg) (by decide) k2) ?_)
      intro n lv st M1 K2 hK2 hI; rw [hI2] at hI; obtain ⟨k, rfl, rfl, hk, rfl, hs, hd, hw⟩ := hI
      unfold BX5_otherwise_2
      generalize hB21 : BX5_otherwise_21 g Q (T_X0_wearOn g) (T_X0_worth g) K2 = B21
      generalize hB22 : BX5_otherwise_22 g Q (T_X0_wearOn g) (T_X0_worth g) K2 = B22
      simp only [T_X0_wearOn, T_X0_worth, i_const, i_lconst, i_iload, i_aload, i_lload, i_istore, i_astore, i_lstore, i_iinc, i_bin, i_div, i_un, i_i2l, i_l2i, i_lbin, i_lcmp, i_if, i_icmp, i_dup, i_dup_x1, i_dup2, i_pop, i_geti, i_getr, i_getd, i_puti, i_putz, i_putd, i_iald, i_bald, i_aald, i_iast, i_bast, i_alen, i_keep, i_ret, i_retz, i_reta, i_retl, i_retv, i_callv, i_callk, i_calls, i_mm, i_copy, i_under, i_undld, i_ldcs, i_sw, q_swc0, q_swc1, q_lg0, q_lg1, q_lent0, q_lent1, lset, lset2, q_lins0, q_lins1, q_ldel0, q_ldel1, q_ldel20, q_ldel21, q_lkeep0, q_lkeep1, q_memb0, q_memb1, cat2, Nat.reduceBEq, decide_true, decide_false, decide_eq_true_eq, cond_true, cond_false, Bool.and_true, Bool.and_false, Bool.true_and, Bool.false_and, f_iadd, f_isub, f_imul, f_ishl, f_ishr, f_iushr, f_iand, f_ior, f_idiv, f_irem, f_ineg, f_i2b, f_i2s, f_ladd, f_lmul, c_eq, c_ne, c_lt, c_ge, c_gt, c_le, cc_eq, cc_ne, cc_lt, cc_ge, cc_gt, cc_le, rfo, aof, csum, Value.category, List.take, List.drop, List.reverse, List.reverseAux, List.map, List.sum_cons, List.sum_nil, List.cons_append, List.nil_append, Option.toList, List.mem_cons, List.not_mem_nil, List.length_cons, List.length_nil, reduceIte, Nat.reduceEqDiff, Nat.reduceAdd, Nat.reduceLeDiff, Nat.reduceLT, a_day, Nat.zero_ne_one, Nat.one_ne_zero, false_and, and_false, true_and, and_true, or_false, false_or, or_true, true_or, not_true_eq_false, not_false_eq_true, Nat.zero_add, Nat.add_zero, Nat.le_refl, Nat.lt_irrefl, Nat.zero_lt_succ, Nat.zero_le, forall_const, List.cons.injEq, Value.int.injEq, Value.ref.injEq, Value.long.injEq, and_assoc, exists_and_left, exists_eq_left']
      try simp only [forall_eq]
      obtain ⟨ko, kx⟩ := key M1 hs _ hd
      obtain ⟨r1, r2⟩ := row M1 hs
      rw [r1, nI_leI (by omega) (by omega)]
      refine ⟨s1, fun z => ?_, fun z => ?_⟩
      · have : k = nn := by omega
        subst this
        rw [Nat.sub_self] at hw
        have hf := h M1 hs
        rw [← hw] at hf
        exact hf
      · have hlt : k < nn := by omega
        have est : wrg X D c0 (nn - k) k = if wor X (pasN X D k) = c0 k then wrg X D c0 (nn - (k + 1)) (k + 1) else nI k := by
          rw [show nn - k = (nn - (k + 1)) + 1 by omega]; rfl
        rw [est] at hw
        have go : ∀ M2, Sm (XD 52) M M2 → dv M2 52 = pasN X D k → BX5_otherwise_22 g Q (T_X0_wearOn g) (T_X0_worth g) K2 [(0, .ref 0), (1, .ref (32 + 2 * i)), (2, .int (nI k))] [] M2 := by
          intro M2 hs2 hd2
          obtain ⟨ko2, kx2⟩ := key M2 hs2 _ hd2
          unfold BX5_otherwise_22
          generalize hB29 : BX5_otherwise_29 g Q (T_X0_wearOn g) (T_X0_worth g) K2 = B29
          simp only [T_X0_worth, i_const, i_lconst, i_iload, i_aload, i_lload, i_istore, i_astore, i_lstore, i_iinc, i_bin, i_div, i_un, i_i2l, i_l2i, i_lbin, i_lcmp, i_if, i_icmp, i_dup, i_dup_x1, i_dup2, i_pop, i_geti, i_getr, i_getd, i_puti, i_putz, i_putd, i_iald, i_bald, i_aald, i_iast, i_bast, i_alen, i_keep, i_ret, i_retz, i_reta, i_retl, i_retv, i_callv, i_callk, i_calls, i_mm, i_copy, i_under, i_undld, i_ldcs, i_sw, q_swc0, q_swc1, q_lg0, q_lg1, q_lent0, q_lent1, lset, lset2, q_lins0, q_lins1, q_ldel0, q_ldel1, q_ldel20, q_ldel21, q_lkeep0, q_lkeep1, q_memb0, q_memb1, cat2, Nat.reduceBEq, decide_true, decide_false, decide_eq_true_eq, cond_true, cond_false, Bool.and_true, Bool.and_false, Bool.true_and, Bool.false_and, f_iadd, f_isub, f_imul, f_ishl, f_ishr, f_iushr, f_iand, f_ior, f_idiv, f_irem, f_ineg, f_i2b, f_i2s, f_ladd, f_lmul, c_eq, c_ne, c_lt, c_ge, c_gt, c_le, cc_eq, cc_ne, cc_lt, cc_ge, cc_gt, cc_le, rfo, aof, csum, Value.category, List.take, List.drop, List.reverse, List.reverseAux, List.map, List.sum_cons, List.sum_nil, List.cons_append, List.nil_append, Option.toList, List.mem_cons, List.not_mem_nil, List.length_cons, List.length_nil, reduceIte, Nat.reduceEqDiff, Nat.reduceAdd, Nat.reduceLeDiff, Nat.reduceLT, a_day, Nat.zero_ne_one, Nat.one_ne_zero, false_and, and_false, true_and, and_true, or_false, false_or, or_true, true_or, not_true_eq_false, not_false_eq_true, Nat.zero_add, Nat.add_zero, Nat.le_refl, Nat.lt_irrefl, Nat.zero_lt_succ, Nat.zero_le, forall_const, List.cons.injEq, Value.int.injEq, Value.ref.injEq, Value.long.injEq, and_assoc, exists_and_left, exists_eq_left']
          refine ⟨c_0 hg, (c_52 hg).1, (c_52 hg).2.1, ko2, fun M3 hs3 => ?_⟩
          rw [hd2, wor_e kx2]
          have hs3D : Sm (XD 52) M M3 := hs2.tr (hs3.mono fun a b q => XP_D q)
          obtain ⟨q1, q2⟩ := row M3 hs3D
          have q3 : M3 (32 + 2 * i + 1) = c0 := by rw [show 32 + 2 * i + 1 = 33 + 2 * i by omega]; exact q2
          subst hB29
          unfold BX5_otherwise_29
          simp only [T_X0_wearOn, T_X0_worth, i_const, i_lconst, i_iload, i_aload, i_lload, i_istore, i_astore, i_lstore, i_iinc, i_bin, i_div, i_un, i_i2l, i_l2i, i_lbin, i_lcmp, i_if, i_icmp, i_dup, i_dup_x1, i_dup2, i_pop, i_geti, i_getr, i_getd, i_puti, i_putz, i_putd, i_iald, i_bald, i_aald, i_iast, i_bast, i_alen, i_keep, i_ret, i_retz, i_reta, i_retl, i_retv, i_callv, i_callk, i_calls, i_mm, i_copy, i_under, i_undld, i_ldcs, i_sw, q_swc0, q_swc1, q_lg0, q_lg1, q_lent0, q_lent1, lset, lset2, q_lins0, q_lins1, q_ldel0, q_ldel1, q_ldel20, q_ldel21, q_lkeep0, q_lkeep1, q_memb0, q_memb1, cat2, Nat.reduceBEq, decide_true, decide_false, decide_eq_true_eq, cond_true, cond_false, Bool.and_true, Bool.and_false, Bool.true_and, Bool.false_and, f_iadd, f_isub, f_imul, f_ishl, f_ishr, f_iushr, f_iand, f_ior, f_idiv, f_irem, f_ineg, f_i2b, f_i2s, f_ladd, f_lmul, c_eq, c_ne, c_lt, c_ge, c_gt, c_le, cc_eq, cc_ne, cc_lt, cc_ge, cc_gt, cc_le, rfo, aof, csum, Value.category, List.take, List.drop, List.reverse, List.reverseAux, List.map, List.sum_cons, List.sum_nil, List.cons_append, List.nil_append, Option.toList, List.mem_cons, List.not_mem_nil, List.length_cons, List.length_nil, reduceIte, Nat.reduceEqDiff, Nat.reduceAdd, Nat.reduceLeDiff, Nat.reduceLT, a_day, Nat.zero_ne_one, Nat.one_ne_zero, false_and, and_false, true_and, and_true, or_false, false_or, or_true, true_or, not_true_eq_false, not_false_eq_true, Nat.zero_add, Nat.add_zero, Nat.le_refl, Nat.lt_irrefl, Nat.zero_lt_succ, Nat.zero_le, forall_const, List.cons.injEq, Value.int.injEq, Value.ref.injEq, Value.long.injEq, and_assoc, exists_and_left, exists_eq_left']
          try simp only [forall_eq]
          rw [nI_clamp (by omega), nI_1]
          have e33 : (32 + 2 * i + 1 : Nat) = 33 + 2 * i := by omega
          rw [e33, s3, q2]
          refine ⟨s1, s2, vp_in_nI (by omega) (by decide), fun y => ?_, fun y => ?_⟩
          · rw [if_pos y] at hw
            refine hK2 (nn - (k + 1)) _ _ _ (by omega) ?_
            rw [hI2]
            exact ⟨k + 1, rfl, rfl, by omega, rfl, hs3D, by rw [dv_C52 hs3 ko2.n rfl]; exact hd2, hw⟩
          · rw [if_neg y] at hw
            have hf := h M3 hs3D
            rw [← hw] at hf
            exact hf
        refine ⟨fun u => ?_, fun u => ⟨c_0 hg, (c_52 hg).1, (c_52 hg).2.1, ko, fun M2 hs2 hd2 => ?_⟩⟩
        · have hk0 : k = 0 := by
            rcases Nat.eq_zero_or_pos k with q | q
            · exact q
            · exact absurd u (nI_nle q (by omega))
          subst_vars; exact go M1 hs hd
        · have hk0 : 0 < k := by
            rcases Nat.eq_zero_or_pos k with q | q
            · subst q; exact absurd (by decide) u
            · exact q
          have hd3 : dv M2 52 = pasN X D k := by
            rw [hd2, hd, pasD_e kx]
            show pasN X D (k - 1 + 1) = _
            rw [show k - 1 + 1 = k by omega]
          have hg2 := go M2 (hs.tr hs2) hd3
          subst hB21
          unfold BX5_otherwise_21
          simp only [i_const, i_lconst, i_iload, i_aload, i_lload, i_istore, i_astore, i_lstore, i_iinc, i_bin, i_div, i_un, i_i2l, i_l2i, i_lbin, i_lcmp, i_if, i_icmp, i_dup, i_dup_x1, i_dup2, i_pop, i_geti, i_getr, i_getd, i_puti, i_putz, i_putd, i_iald, i_bald, i_aald, i_iast, i_bast, i_alen, i_keep, i_ret, i_retz, i_reta, i_retl, i_retv, i_callv, i_callk, i_calls, i_mm, i_copy, i_under, i_undld, i_ldcs, i_sw, q_swc0, q_swc1, q_lg0, q_lg1, q_lent0, q_lent1, lset, lset2, q_lins0, q_lins1, q_ldel0, q_ldel1, q_ldel20, q_ldel21, q_lkeep0, q_lkeep1, q_memb0, q_memb1, cat2, Nat.reduceBEq, decide_true, decide_false, decide_eq_true_eq, cond_true, cond_false, Bool.and_true, Bool.and_false, Bool.true_and, Bool.false_and, f_iadd, f_isub, f_imul, f_ishl, f_ishr, f_iushr, f_iand, f_ior, f_idiv, f_irem, f_ineg, f_i2b, f_i2s, f_ladd, f_lmul, c_eq, c_ne, c_lt, c_ge, c_gt, c_le, cc_eq, cc_ne, cc_lt, cc_ge, cc_gt, cc_le, rfo, aof, csum, Value.category, List.take, List.drop, List.reverse, List.reverseAux, List.map, List.sum_cons, List.sum_nil, List.cons_append, List.nil_append, Option.toList, List.mem_cons, List.not_mem_nil, List.length_cons, List.length_nil, reduceIte, Nat.reduceEqDiff, Nat.reduceAdd, Nat.reduceLeDiff, Nat.reduceLT, a_day, Nat.zero_ne_one, Nat.one_ne_zero, false_and, and_false, true_and, and_true, or_false, false_or, or_true, true_or, not_true_eq_false, not_false_eq_true, Nat.zero_add, Nat.add_zero, Nat.le_refl, Nat.lt_irrefl, Nat.zero_lt_succ, Nat.zero_le, forall_const, List.cons.injEq, Value.int.injEq, Value.ref.injEq, Value.long.injEq, and_assoc, exists_and_left, exists_eq_left']
          subst_vars
          exact hg2
    refine s_of (fun lv st M0 hs => ?_) (WX5_otherwise_0 C (t_X0_wearOn hg) (by decide) (t_X0_worth hg) (by decide) L2)
    obtain ⟨rfl, rfl, rfl⟩ := hs
    unfold BX5_otherwise_0
    simp only [T_X0_wearOn, T_X0_worth, i_const, i_lconst, i_iload, i_aload, i_lload, i_istore, i_astore, i_lstore, i_iinc, i_bin, i_div, i_un, i_i2l, i_l2i, i_lbin, i_lcmp, i_if, i_icmp, i_dup, i_dup_x1, i_dup2, i_pop, i_geti, i_getr, i_getd, i_puti, i_putz, i_putd, i_iald, i_bald, i_aald, i_iast, i_bast, i_alen, i_keep, i_ret, i_retz, i_reta, i_retl, i_retv, i_callv, i_callk, i_calls, i_mm, i_copy, i_under, i_undld, i_ldcs, i_sw, q_swc0, q_swc1, q_lg0, q_lg1, q_lent0, q_lent1, lset, lset2, q_lins0, q_lins1, q_ldel0, q_ldel1, q_ldel20, q_ldel21, q_lkeep0, q_lkeep1, q_memb0, q_memb1, cat2, Nat.reduceBEq, decide_true, decide_false, decide_eq_true_eq, cond_true, cond_false, Bool.and_true, Bool.and_false, Bool.true_and, Bool.false_and, f_iadd, f_isub, f_imul, f_ishl, f_ishr, f_iushr, f_iand, f_ior, f_idiv, f_irem, f_ineg, f_i2b, f_i2s, f_ladd, f_lmul, c_eq, c_ne, c_lt, c_ge, c_gt, c_le, cc_eq, cc_ne, cc_lt, cc_ge, cc_gt, cc_le, rfo, aof, csum, Value.category, List.take, List.drop, List.reverse, List.reverseAux, List.map, List.sum_cons, List.sum_nil, List.cons_append, List.nil_append, Option.toList, List.mem_cons, List.not_mem_nil, List.length_cons, List.length_nil, reduceIte, Nat.reduceEqDiff, Nat.reduceAdd, Nat.reduceLeDiff, Nat.reduceLT, a_day, Nat.zero_ne_one, Nat.one_ne_zero, false_and, and_false, true_and, and_true, or_false, false_or, or_true, true_or, not_true_eq_false, not_false_eq_true, Nat.zero_add, Nat.add_zero, Nat.le_refl, Nat.lt_irrefl, Nat.zero_lt_succ, Nat.zero_le, forall_const, List.cons.injEq, Value.int.injEq, Value.ref.injEq, Value.long.injEq, and_assoc, exists_and_left, exists_eq_left']
    try simp only [forall_eq]
    refine iE2 (nn - 0) _ _ _ ?_
    rw [hI2]
    exact ⟨0, rfl, rfl, by omega, rfl, Sm.rf, hDe, rfl⟩
def T_X5_choices (g : WG) (as : List Value) (M : MM) (Q : Option Value → MM → Prop) : Prop := ∃ (a : Nat), as = [.ref 0, .int (nI a)] ∧ a < 6 ∧ Q (some (.int (if a = 0 then M 0 6 else nI (telM 0 a)))) M
set_option maxRecDepth 100000 in
set_option maxHeartbeats 1000000 in
theorem t_X5_choices {l : Launch} {g : WG} (hg : Full g) : Ct l g yX5_choices cX5_choices 2 ((Option.some FieldType.int)) 1 (T_X5_choices g) := by
  refine Ct.of (by decide) (fun as M Q h => ?_) (fun p e s m args below meth c as M Q h C => ?_)
  · obtain ⟨a, rfl, ha, h⟩ := h; exact ⟨by simp, by simp [Value.category]⟩
  · obtain ⟨a, rfl, ha, h⟩ := h
    refine s_of (fun lv st M0 hs => ?_) (WX5_choices_0 C)
    obtain ⟨rfl, rfl, rfl⟩ := hs
    unfold BX5_choices_0
    simp only [i_const, i_lconst, i_iload, i_aload, i_lload, i_istore, i_astore, i_lstore, i_iinc, i_bin, i_div, i_un, i_i2l, i_l2i, i_lbin, i_lcmp, i_if, i_icmp, i_dup, i_dup_x1, i_dup2, i_pop, i_geti, i_getr, i_getd, i_puti, i_putz, i_putd, i_iald, i_bald, i_aald, i_iast, i_bast, i_alen, i_keep, i_ret, i_retz, i_reta, i_retl, i_retv, i_callv, i_callk, i_calls, i_mm, i_copy, i_under, i_undld, i_ldcs, i_sw, q_swc0, q_swc1, q_lg0, q_lg1, q_lent0, q_lent1, lset, lset2, q_lins0, q_lins1, q_ldel0, q_ldel1, q_ldel20, q_ldel21, q_lkeep0, q_lkeep1, q_memb0, q_memb1, cat2, Nat.reduceBEq, decide_true, decide_false, decide_eq_true_eq, cond_true, cond_false, Bool.and_true, Bool.and_false, Bool.true_and, Bool.false_and, f_iadd, f_isub, f_imul, f_ishl, f_ishr, f_iushr, f_iand, f_ior, f_idiv, f_irem, f_ineg, f_i2b, f_i2s, f_ladd, f_lmul, c_eq, c_ne, c_lt, c_ge, c_gt, c_le, cc_eq, cc_ne, cc_lt, cc_ge, cc_gt, cc_le, rfo, aof, csum, Value.category, List.take, List.drop, List.reverse, List.reverseAux, List.map, List.sum_cons, List.sum_nil, List.cons_append, List.nil_append, Option.toList, List.mem_cons, List.not_mem_nil, List.length_cons, List.length_nil, reduceIte, Nat.reduceEqDiff, Nat.reduceAdd, Nat.reduceLeDiff, Nat.reduceLT, a_day, Nat.zero_ne_one, Nat.one_ne_zero, false_and, and_false, true_and, and_true, or_false, false_or, or_true, true_or, not_true_eq_false, not_false_eq_true, Nat.zero_add, Nat.add_zero, Nat.le_refl, Nat.lt_irrefl, Nat.zero_lt_succ, Nat.zero_le, forall_const, List.cons.injEq, Value.int.injEq, Value.ref.injEq, Value.long.injEq, and_assoc, exists_and_left, exists_eq_left']
    try simp only [forall_eq]
    have z : ∀ j, j < 10 → (nI a = nI j ↔ a = j) := fun j hj => nI_eq (by omega) (by omega)
    have z0 := z 0 (by decide)
    have z1 := z 1 (by decide)
    have z2 := z 2 (by decide)
    have z5 := z 5 (by decide)
    unfold telM at h
    refine ⟨fun e => ?_, fun e0 => ⟨fun e => ?_, fun e1 => ⟨fun e => ?_, fun e2 => ⟨fun e => ?_, fun e5 => ?_⟩⟩⟩⟩
    · rw [if_pos (z0.mp e)] at h; exact ⟨c_0 hg, h⟩
    · have := z1.mp e; subst this; exact h
    · have := z2.mp e; subst this; exact h
    · have := z5.mp e; subst this; exact h
    · have n0 : ¬ a = 0 := fun q => e0 (z0.mpr q)
      have n1 : ¬ a = 1 := fun q => e1 (z1.mpr q)
      have n2 : ¬ a = 2 := fun q => e2 (z2.mpr q)
      have n5 : ¬ a = 5 := fun q => e5 (z5.mpr q)
      rw [if_neg n0, if_neg n0, if_neg n1, if_neg n2, if_neg n5] at h
      exact h
def T_X5_choose (g : WG) (as : List Value) (M : MM) (Q : Option Value → MM → Prop) : Prop := ∃ (a s v T : Nat), as = [.ref 0, .int (nI a), .int (nI s), .int (nI v)] ∧ a < 6 ∧ wfD (dv M 52) T ∧ v < telM T a ∧ (¬ a = 0 → s < dn (dv M 52)) ∧ ∀ M', Sm (XD 52) M M' → dv M' 52 = telF (dv M 52) a s v → Q none M'
set_option maxRecDepth 100000 in
set_option maxHeartbeats 2000000 in
theorem t_X5_choose {l : Launch} {g : WG} (hg : Full g) : Ct l g yX5_choose cX5_choose 4 ((Option.none : Option FieldType)) 3 (T_X5_choose g) := by
  refine Ct.of (by decide) (fun as M Q h => ?_) (fun p e s m args below meth c as M Q h C => ?_)
  · obtain ⟨a, sx, v, T, rfl, ha, hwf, hv, hsx, h⟩ := h; exact ⟨by simp, by simp [Value.category]⟩
  · obtain ⟨a, sx, v, T, rfl, ha, hwf, hv, hsx, h⟩ := h
    refine s_of (fun lv st M0 hs => ?_) (WX5_choose_0 C (t_X1_shift hg) (by decide))
    obtain ⟨rfl, rfl, rfl⟩ := hs
    unfold BX5_choose_0
    simp only [T_X1_shift, i_const, i_lconst, i_iload, i_aload, i_lload, i_istore, i_astore, i_lstore, i_iinc, i_bin, i_div, i_un, i_i2l, i_l2i, i_lbin, i_lcmp, i_if, i_icmp, i_dup, i_dup_x1, i_dup2, i_pop, i_geti, i_getr, i_getd, i_puti, i_putz, i_putd, i_iald, i_bald, i_aald, i_iast, i_bast, i_alen, i_keep, i_ret, i_retz, i_reta, i_retl, i_retv, i_callv, i_callk, i_calls, i_mm, i_copy, i_under, i_undld, i_ldcs, i_sw, q_swc0, q_swc1, q_lg0, q_lg1, q_lent0, q_lent1, lset, lset2, q_lins0, q_lins1, q_ldel0, q_ldel1, q_ldel20, q_ldel21, q_lkeep0, q_lkeep1, q_memb0, q_memb1, cat2, Nat.reduceBEq, decide_true, decide_false, decide_eq_true_eq, cond_true, cond_false, Bool.and_true, Bool.and_false, Bool.true_and, Bool.false_and, f_iadd, f_isub, f_imul, f_ishl, f_ishr, f_iushr, f_iand, f_ior, f_idiv, f_irem, f_ineg, f_i2b, f_i2s, f_ladd, f_lmul, c_eq, c_ne, c_lt, c_ge, c_gt, c_le, cc_eq, cc_ne, cc_lt, cc_ge, cc_gt, cc_le, rfo, aof, csum, Value.category, List.take, List.drop, List.reverse, List.reverseAux, List.map, List.sum_cons, List.sum_nil, List.cons_append, List.nil_append, Option.toList, List.mem_cons, List.not_mem_nil, List.length_cons, List.length_nil, reduceIte, Nat.reduceEqDiff, Nat.reduceAdd, Nat.reduceLeDiff, Nat.reduceLT, a_day, Nat.zero_ne_one, Nat.one_ne_zero, false_and, and_false, true_and, and_true, or_false, false_or, or_true, true_or, not_true_eq_false, not_false_eq_true, Nat.zero_add, Nat.add_zero, Nat.le_refl, Nat.lt_irrefl, Nat.zero_lt_succ, Nat.zero_le, forall_const, List.cons.injEq, Value.int.injEq, Value.ref.injEq, Value.long.injEq, and_assoc, exists_and_left, exists_eq_left']
    try simp only [forall_eq]
    have hn := hwf.2.1
    have hT := hwf.2.2.2.2
    have z : ∀ j, j < 10 → (nI a = nI j ↔ a = j) := fun j hj => nI_eq (by omega) (by omega)
    have z0 := z 0 (by decide)
    have z1 := z 1 (by decide)
    have z2 := z 2 (by decide)
    have z5 := z 5 (by decide)
    unfold telF at h
    have vi : ¬ a = 0 → okq g 1 (57 + sx) ∧ vp_in (nI sx) (ln 54) ∧ (nI sx).toNatClampNeg = sx := fun e => by
      have := hsx e
      exact ⟨seam_ok (q := 52) (s := sx) hg D52 (by omega), vp_in_nI (n := sx) (N := 7) (by omega) (by decide), nI_clamp (by omega)⟩
    have o54 : okq g 9 54 := okR hg (by decide) (by decide) rfl
    have sd : ∀ j x, sx < 7 → Sm (XD 52) M0 (mset M0 (57 + sx) j x) := fun j x hh => Sm.rf.set _ (Or.inl (by omega))
    refine ⟨fun e0 => ⟨fun e1 => ⟨fun e2 => ⟨fun e5 => ?_, fun e5 => ?_⟩, fun e2 => ?_⟩, fun e1 => ?_⟩, fun e0 => ?_⟩
    · have n0 : ¬ a = 0 := fun q => e0 (z0.mpr q)
      have n1 : ¬ a = 1 := fun q => e1 (z1.mpr q)
      have n2 : ¬ a = 2 := fun q => e2 (z2.mpr q)
      have n5 : ¬ a = 5 := fun q => e5 (z5.mpr q)
      obtain ⟨so, vp, cl⟩ := vi n0
      rw [if_neg n0, if_neg n1, if_neg n2, if_neg n5] at h
      rw [cl]
      exact ⟨c_0 hg, c_52 hg, o54, vp, so, h _ (sd _ _ (by have := hsx n0; omega)) (dv_set (q := 52) (j := 4) (by decide) (hsx n0))⟩
    · have e5 := z5.mp (Decidable.not_not.mp e5)
      subst e5
      obtain ⟨so, vp, cl⟩ := vi (by decide)
      have hs' := hsx (by decide)
      rw [if_neg (by decide), if_neg (by decide), if_neg (by decide), if_pos rfl] at h
      rw [cl]
      obtain ⟨w1, w2, w3, w4, -⟩ := hwf.2.2.1 sx hs'
      have e2' : M0 (57 + sx) 2 = nI (fi (dv M0 52) sx) := by rw [← w1]; exact (dv_s (q := 52) 2 (by decide) hs').symm
      have e3 : M0 (57 + sx) 3 = nI (la (dv M0 52) sx) := by rw [← w2]; exact (dv_s (q := 52) 3 (by decide) hs').symm
      rw [e2', e3, sh_eq w3 w4 hv]
      refine ⟨c_0 hg, c_52 hg, o54, vp, so.1, so.2.1, so, h _ ((sd _ _ (by omega)).set _ (Or.inl (by omega))) ?_⟩
      have d1 : dv (mset M0 (57 + sx) 2 (nI v)) 52 = upF (dv M0 52) 3 sx (nI v) := dv_set (q := 52) (j := 2) (by decide) hs'
      have hn2 : sx < dn (dv (mset M0 (57 + sx) 2 (nI v)) 52) := by rw [d1]; unfold dn; rw [upF_ne (by decide)]; exact hs'
      have d2 := dv_set (q := 52) (j := 3) (x := nI (shfL (dv M0 52) sx v)) (by decide) hn2
      rw [d1] at d2
      exact d2
    · have e2 := z2.mp (Decidable.not_not.mp e2)
      subst e2
      obtain ⟨so, vp, cl⟩ := vi (by decide)
      have hs' := hsx (by decide)
      rw [if_neg (by decide), if_neg (by decide), if_pos rfl] at h
      rw [cl]
      exact ⟨c_0 hg, c_52 hg, o54, vp, so, h _ (sd _ _ (by omega)) (dv_set (q := 52) (j := 1) (by decide) hs')⟩
    · have e1 := z1.mp (Decidable.not_not.mp e1)
      subst e1
      obtain ⟨so, vp, cl⟩ := vi (by decide)
      have hs' := hsx (by decide)
      rw [if_neg (by decide), if_pos rfl] at h
      rw [cl]
      exact ⟨c_0 hg, c_52 hg, o54, vp, so, h _ (sd _ _ (by omega)) (dv_set (q := 52) (j := 0) (by decide) hs')⟩
    · have e0 := z0.mp (Decidable.not_not.mp e0)
      subst e0
      rw [if_pos rfl] at h
      have hv6 : v < 6 := by
        unfold telM at hv
        rw [if_pos rfl] at hv
        omega
      rw [nI_clamp (by omega)]
      refine ⟨c_0 hg, c_0 hg, okR hg (by decide) (by decide) rfl, vp_in_nI (n := v) (N := 6) hv6 (by decide), c_52 hg, (show (1 + (7 + 4 * v) : Nat) < 1000 by omega), ?_⟩
      have e : 1 + (7 + 4 * v) = 8 + 4 * v := by omega
      rw [e]
      exact h _ (Sm.rf.set _ (Or.inl (by omega))) dv_set4
def T_X5_isAskedOfSeam (g : WG) (as : List Value) (M : MM) (Q : Option Value → MM → Prop) : Prop := ∃ w n, as = [.ref 0, .int w] ∧ n < 100 ∧ M 40 6 = nI n ∧ Q (some (.int (b2i ((10 ≤ w ∧ w ≤ 59) ∧ (0 ≤ w - w / 10 * 10 ∧ w - w / 10 * 10 < nI n))))) M
set_option maxRecDepth 100000 in
set_option maxHeartbeats 1000000 in
theorem t_X5_isAskedOfSeam {l : Launch} {g : WG} (hg : Full g) : Ct l g yX5_isAskedOfSeam cX5_isAskedOfSeam 2 ((Option.some FieldType.boolean)) 2 (T_X5_isAskedOfSeam g) := by
  refine Ct.of (by decide) (fun as M Q h => ?_) (fun p e s m args below meth c as M Q h C => ?_)
  · obtain ⟨w, n, rfl, hn, h6, h⟩ := h; exact ⟨by simp, by simp [Value.category]⟩
  · obtain ⟨w, n, rfl, hn, h6, h⟩ := h
    refine s_of (fun lv st M0 hs => ?_) (WX5_isAskedOfSeam_0 C (t_X5_isSeam hg) (by decide))
    obtain ⟨rfl, rfl, rfl⟩ := hs
    unfold BX5_isAskedOfSeam_0
    generalize hB20 : BX5_isAskedOfSeam_20 g Q (T_X5_isSeam g) = B20
    simp only [T_X5_isSeam, i_const, i_lconst, i_iload, i_aload, i_lload, i_istore, i_astore, i_lstore, i_iinc, i_bin, i_div, i_un, i_i2l, i_l2i, i_lbin, i_lcmp, i_if, i_icmp, i_dup, i_dup_x1, i_dup2, i_pop, i_geti, i_getr, i_getd, i_puti, i_putz, i_putd, i_iald, i_bald, i_aald, i_iast, i_bast, i_alen, i_keep, i_ret, i_retz, i_reta, i_retl, i_retv, i_callv, i_callk, i_calls, i_mm, i_copy, i_under, i_undld, i_ldcs, i_sw, q_swc0, q_swc1, q_lg0, q_lg1, q_lent0, q_lent1, lset, lset2, q_lins0, q_lins1, q_ldel0, q_ldel1, q_ldel20, q_ldel21, q_lkeep0, q_lkeep1, q_memb0, q_memb1, cat2, Nat.reduceBEq, decide_true, decide_false, decide_eq_true_eq, cond_true, cond_false, Bool.and_true, Bool.and_false, Bool.true_and, Bool.false_and, f_iadd, f_isub, f_imul, f_ishl, f_ishr, f_iushr, f_iand, f_ior, f_idiv, f_irem, f_ineg, f_i2b, f_i2s, f_ladd, f_lmul, c_eq, c_ne, c_lt, c_ge, c_gt, c_le, cc_eq, cc_ne, cc_lt, cc_ge, cc_gt, cc_le, rfo, aof, csum, Value.category, List.take, List.drop, List.reverse, List.reverseAux, List.map, List.sum_cons, List.sum_nil, List.cons_append, List.nil_append, Option.toList, List.mem_cons, List.not_mem_nil, List.length_cons, List.length_nil, reduceIte, Nat.reduceEqDiff, Nat.reduceAdd, Nat.reduceLeDiff, Nat.reduceLT, a_day, Nat.zero_ne_one, Nat.one_ne_zero, false_and, and_false, true_and, and_true, or_false, false_or, or_true, true_or, not_true_eq_false, not_false_eq_true, Nat.zero_add, Nat.add_zero, Nat.le_refl, Nat.lt_irrefl, Nat.zero_lt_succ, Nat.zero_le, forall_const, List.cons.injEq, Value.int.injEq, Value.ref.injEq, Value.long.injEq, and_assoc, exists_and_left, exists_eq_left']
    try simp only [forall_eq]
    have e : (60 : Int32) ≤ w ↔ ¬ w ≤ 59 := by
      rw [i_le, i_le]
      have a : (60 : Int32).toInt = 60 := rfl
      have b : (59 : Int32).toInt = 59 := rfl
      rw [a, b]; omega
    rw [e]
    refine ⟨fun y => ?_, fun y => ⟨fun u => ?_, fun u => ⟨by decide, (c_0 hg).1, (c_0 hg).2.1, n, hn, h6, ?_⟩⟩⟩
    · rwa [b2i_f (fun q => i_not_lt.mpr q.1.1 y)] at h
    · rwa [b2i_f (fun q => u q.1.2)] at h
    · subst hB20
      unfold BX5_isAskedOfSeam_20
      simp only [T_X5_isSeam, i_const, i_lconst, i_iload, i_aload, i_lload, i_istore, i_astore, i_lstore, i_iinc, i_bin, i_div, i_un, i_i2l, i_l2i, i_lbin, i_lcmp, i_if, i_icmp, i_dup, i_dup_x1, i_dup2, i_pop, i_geti, i_getr, i_getd, i_puti, i_putz, i_putd, i_iald, i_bald, i_aald, i_iast, i_bast, i_alen, i_keep, i_ret, i_retz, i_reta, i_retl, i_retv, i_callv, i_callk, i_calls, i_mm, i_copy, i_under, i_undld, i_ldcs, i_sw, q_swc0, q_swc1, q_lg0, q_lg1, q_lent0, q_lent1, lset, lset2, q_lins0, q_lins1, q_ldel0, q_ldel1, q_ldel20, q_ldel21, q_lkeep0, q_lkeep1, q_memb0, q_memb1, cat2, Nat.reduceBEq, decide_true, decide_false, decide_eq_true_eq, cond_true, cond_false, Bool.and_true, Bool.and_false, Bool.true_and, Bool.false_and, f_iadd, f_isub, f_imul, f_ishl, f_ishr, f_iushr, f_iand, f_ior, f_idiv, f_irem, f_ineg, f_i2b, f_i2s, f_ladd, f_lmul, c_eq, c_ne, c_lt, c_ge, c_gt, c_le, cc_eq, cc_ne, cc_lt, cc_ge, cc_gt, cc_le, rfo, aof, csum, Value.category, List.take, List.drop, List.reverse, List.reverseAux, List.map, List.sum_cons, List.sum_nil, List.cons_append, List.nil_append, Option.toList, List.mem_cons, List.not_mem_nil, List.length_cons, List.length_nil, reduceIte, Nat.reduceEqDiff, Nat.reduceAdd, Nat.reduceLeDiff, Nat.reduceLT, a_day, Nat.zero_ne_one, Nat.one_ne_zero, false_and, and_false, true_and, and_true, or_false, false_or, or_true, true_or, not_true_eq_false, not_false_eq_true, Nat.zero_add, Nat.add_zero, Nat.le_refl, Nat.lt_irrefl, Nat.zero_lt_succ, Nat.zero_le, forall_const, List.cons.injEq, Value.int.injEq, Value.ref.injEq, Value.long.injEq, and_assoc, exists_and_left, exists_eq_left']
      try simp only [forall_eq]
      refine ⟨fun z => ?_, fun z => ?_⟩
      · rwa [b2i_f (fun q => b2n z q.2)] at h
      · rwa [b2i_t ⟨⟨i_not_lt.mp y, Decidable.not_not.mp u⟩, b2t z⟩] at h
    
