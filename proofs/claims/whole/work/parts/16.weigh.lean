/-! ===== weighing ===== -/
theorem pul_X {X X' : XV} {D : DV} (h : X' (rix D) = X (rix D)) (s : Nat) : pul X' D s = pul X D s := by funext j; simp only [pul, rul, h]
def T_X0_pullAt (g : WG) (as : List Value) (M : MM) (Q : Option Value → MM → Prop) : Prop := ∃ (q s : Nat) (hh : Int32), as = [.ref q, .ref (q + 5 + s), .int hh, .int (whl (dv M q) (dn (dv M q)))] ∧ okD M q ∧ s < dn (dv M q) ∧ hok hh ∧ ∀ M', Sm (XP q) M M' → M' q 7 = M q 7 → (∀ h, h < 16 → M' (q + 3) h = pa (M (q + 3)) hh (pul (xc M) (dv M q) s) h) → M' q 8 = eorI (M q 8) hh → Q none M'
set_option maxRecDepth 100000 in
set_option maxHeartbeats 1000000 in
theorem t_X0_pullAt {l : Launch} {g : WG} (hg : Full g) : Ct l g yX0_pullAt cX0_pullAt 4 ((Option.none : Option FieldType)) 4 (T_X0_pullAt g) := by
  refine Ct.of (by decide) (fun as M Q h => ?_) (fun p e s m args below meth c as M Q h C => ?_)
  · obtain ⟨q, s0, hh, rfl, hq, hs0, hho, h⟩ := h; exact ⟨by simp, by simp [Value.category]⟩
  · obtain ⟨q, s0, hh, rfl, hq, hs0, hho, h⟩ := h
    obtain ⟨o1, o2, o3, o4, o5, ⟨l1, l2, l3, l4⟩, og, ok⟩ := day_ok hg hq.1
    have hqd := hq.1
    have so := seam_ok (s := s0) hg hqd (by have := hq.n; omega)
    obtain ⟨t, ht, hr4, htx, hrix⟩ := hq.rule
    refine s_of (fun lv st M0 hs => ?_) (WX0_pullAt_0 C (t_X0_ask hg) (by decide) (t_X4_value (tape_r hg)) (by decide) (t_X5_bounded hg) (by decide) (t_X1_pullsBy hg) (by decide))
    obtain ⟨rfl, rfl, rfl⟩ := hs
    unfold BX0_pullAt_0
    generalize hB23 : BX0_pullAt_23 g Q (T_X0_ask g) (T_X4_value g) (T_X5_bounded g) (T_X1_pullsBy g) = B23
    simp only [T_X0_ask, T_X4_value, T_X5_bounded, T_X1_pullsBy, i_const, i_lconst, i_iload, i_aload, i_lload, i_istore, i_astore, i_lstore, i_iinc, i_bin, i_div, i_un, i_i2l, i_l2i, i_lbin, i_lcmp, i_if, i_icmp, i_dup, i_dup_x1, i_dup2, i_pop, i_geti, i_getr, i_getd, i_puti, i_putz, i_putd, i_iald, i_bald, i_aald, i_iast, i_bast, i_alen, i_keep, i_ret, i_retz, i_reta, i_retl, i_retv, i_callv, i_callk, i_calls, i_mm, i_copy, i_under, i_undld, i_ldcs, i_sw, q_swc0, q_swc1, q_lg0, q_lg1, q_lent0, q_lent1, lset, lset2, q_lins0, q_lins1, q_ldel0, q_ldel1, q_ldel20, q_ldel21, q_lkeep0, q_lkeep1, q_memb0, q_memb1, cat2, Nat.reduceBEq, decide_true, decide_false, decide_eq_true_eq, cond_true, cond_false, Bool.and_true, Bool.and_false, Bool.true_and, Bool.false_and, f_iadd, f_isub, f_imul, f_ishl, f_ishr, f_iushr, f_iand, f_ior, f_idiv, f_irem, f_ineg, f_i2b, f_i2s, f_ladd, f_lmul, c_eq, c_ne, c_lt, c_ge, c_gt, c_le, cc_eq, cc_ne, cc_lt, cc_ge, cc_gt, cc_le, rfo, aof, csum, Value.category, List.take, List.drop, List.reverse, List.reverseAux, List.map, List.sum_cons, List.sum_nil, List.cons_append, List.nil_append, Option.toList, List.mem_cons, List.not_mem_nil, List.length_cons, List.length_nil, reduceIte, Nat.reduceEqDiff, Nat.reduceAdd, Nat.reduceLeDiff, Nat.reduceLT, a_day, Nat.zero_ne_one, Nat.one_ne_zero, false_and, and_false, true_and, and_true, or_false, false_or, or_true, true_or, not_true_eq_false, not_false_eq_true, Nat.zero_add, Nat.add_zero, Nat.le_refl, Nat.lt_irrefl, Nat.zero_lt_succ, Nat.zero_le, forall_const, List.cons.injEq, Value.int.injEq, Value.ref.injEq, Value.long.injEq, and_assoc, exists_and_left, exists_eq_left']
    try simp only [forall_eq]
    rcases hho with rfl | ⟨h0, hh0, rfl⟩
    · have hz : ¬ (0 : Int32) ≤ -1 := by decide
      refine ⟨fun _ => h M0 Sm.rf rfl (fun j hj => ?_) ?_, fun z => absurd (by decide) z⟩
      · simp only [pa, if_neg hz]
      · simp only [eorI, if_neg hz]
    · have hz : (0 : Int32) ≤ nI h0 := nI_pos' (by omega)
      have hc : (nI h0).toNatClampNeg = h0 := nI_clamp (by omega)
      simp only [pa, eorI, if_pos hz, hc] at h
      refine ⟨fun z => absurd z (nI_pos (by omega)), fun _ => ⟨fun _ => ?_, fun z => absurd (nI_lt (b := 16) hh0 (by omega)) z⟩⟩
      refine ⟨o1, o2, vp_in_nI (by omega) (by omega), og, ok, hqd, so, by omega, fun M1 hs1 e0 e1 e2 e3 e4 e5 => ?_⟩
      have hf := ask_fct (s := s0) hs0 e0 e1 e2 e3 e4 e5
      have hrd : rdv (M1 q 4) = .ref (8 + 4 * t) := by rw [hs1 q 4 (by show ¬ q = q + 4; omega), hr4]; exact rdv_n (by omega)
      subst hB23
      unfold BX0_pullAt_23
      generalize hB43 : BX0_pullAt_43 g Q (T_X0_ask g) (T_X4_value g) (T_X5_bounded g) (T_X1_pullsBy g) = B43
      simp only [T_X0_ask, T_X4_value, T_X5_bounded, T_X1_pullsBy, hrd, i_const, i_lconst, i_iload, i_aload, i_lload, i_istore, i_astore, i_lstore, i_iinc, i_bin, i_div, i_un, i_i2l, i_l2i, i_lbin, i_lcmp, i_if, i_icmp, i_dup, i_dup_x1, i_dup2, i_pop, i_geti, i_getr, i_getd, i_puti, i_putz, i_putd, i_iald, i_bald, i_aald, i_iast, i_bast, i_alen, i_keep, i_ret, i_retz, i_reta, i_retl, i_retv, i_callv, i_callk, i_calls, i_mm, i_copy, i_under, i_undld, i_ldcs, i_sw, q_swc0, q_swc1, q_lg0, q_lg1, q_lent0, q_lent1, lset, lset2, q_lins0, q_lins1, q_ldel0, q_ldel1, q_ldel20, q_ldel21, q_lkeep0, q_lkeep1, q_memb0, q_memb1, cat2, Nat.reduceBEq, decide_true, decide_false, decide_eq_true_eq, cond_true, cond_false, Bool.and_true, Bool.and_false, Bool.true_and, Bool.false_and, f_iadd, f_isub, f_imul, f_ishl, f_ishr, f_iushr, f_iand, f_ior, f_idiv, f_irem, f_ineg, f_i2b, f_i2s, f_ladd, f_lmul, c_eq, c_ne, c_lt, c_ge, c_gt, c_le, cc_eq, cc_ne, cc_lt, cc_ge, cc_gt, cc_le, rfo, aof, csum, Value.category, List.take, List.drop, List.reverse, List.reverseAux, List.map, List.sum_cons, List.sum_nil, List.cons_append, List.nil_append, Option.toList, List.mem_cons, List.not_mem_nil, List.length_cons, List.length_nil, reduceIte, Nat.reduceEqDiff, Nat.reduceAdd, Nat.reduceLeDiff, Nat.reduceLT, a_day, Nat.zero_ne_one, Nat.one_ne_zero, false_and, and_false, true_and, and_true, or_false, false_or, or_true, true_or, not_true_eq_false, not_false_eq_true, Nat.zero_add, Nat.add_zero, Nat.le_refl, Nat.lt_irrefl, Nat.zero_lt_succ, Nat.zero_le, forall_const, List.cons.injEq, Value.int.injEq, Value.ref.injEq, Value.long.injEq, and_assoc, exists_and_left, exists_eq_left']
      try simp only [forall_eq]
      have hx1 := xc_sm (r := 8 + 4 * t) hs1 (fun j => by unfold isD at hqd; show ¬ 8 + 4 * t + 1 = q + 4; omega) (fun j => by unfold isD at hqd; show ¬ 8 + 4 * t + 2 = q + 4; omega)
      have tk := text_ok (r := 8 + 4 * t) (tape_r hg) ⟨t, ht, rfl⟩
      refine ⟨o1, o4, vp_in_nI (by omega) (by omega), o1, o1, tk.2.2.2.2.2.1, tk.2.2.2.2.2.2, 0, rfl, ⟨t, ht, rfl⟩, by omega, o5, l4, by unfold isD at hqd; omega, hx1.2 htx, fun M2 hs2 => ?_⟩
      subst hB43
      unfold BX0_pullAt_43
      generalize hB48 : BX0_pullAt_48 g Q (T_X0_ask g) (T_X4_value g) (T_X5_bounded g) (T_X1_pullsBy g) = B48
      simp only [T_X0_ask, T_X4_value, T_X5_bounded, T_X1_pullsBy, i_const, i_lconst, i_iload, i_aload, i_lload, i_istore, i_astore, i_lstore, i_iinc, i_bin, i_div, i_un, i_i2l, i_l2i, i_lbin, i_lcmp, i_if, i_icmp, i_dup, i_dup_x1, i_dup2, i_pop, i_geti, i_getr, i_getd, i_puti, i_putz, i_putd, i_iald, i_bald, i_aald, i_iast, i_bast, i_alen, i_keep, i_ret, i_retz, i_reta, i_retl, i_retv, i_callv, i_callk, i_calls, i_mm, i_copy, i_under, i_undld, i_ldcs, i_sw, q_swc0, q_swc1, q_lg0, q_lg1, q_lent0, q_lent1, lset, lset2, q_lins0, q_lins1, q_ldel0, q_ldel1, q_ldel20, q_ldel21, q_lkeep0, q_lkeep1, q_memb0, q_memb1, cat2, Nat.reduceBEq, decide_true, decide_false, decide_eq_true_eq, cond_true, cond_false, Bool.and_true, Bool.and_false, Bool.true_and, Bool.false_and, f_iadd, f_isub, f_imul, f_ishl, f_ishr, f_iushr, f_iand, f_ior, f_idiv, f_irem, f_ineg, f_i2b, f_i2s, f_ladd, f_lmul, c_eq, c_ne, c_lt, c_ge, c_gt, c_le, cc_eq, cc_ne, cc_lt, cc_ge, cc_gt, cc_le, rfo, aof, csum, Value.category, List.take, List.drop, List.reverse, List.reverseAux, List.map, List.sum_cons, List.sum_nil, List.cons_append, List.nil_append, Option.toList, List.mem_cons, List.not_mem_nil, List.length_cons, List.length_nil, reduceIte, Nat.reduceEqDiff, Nat.reduceAdd, Nat.reduceLeDiff, Nat.reduceLT, a_day, Nat.zero_ne_one, Nat.one_ne_zero, false_and, and_false, true_and, and_true, or_false, false_or, or_true, true_or, not_true_eq_false, not_false_eq_true, Nat.zero_add, Nat.add_zero, Nat.le_refl, Nat.lt_irrefl, Nat.zero_lt_succ, Nat.zero_le, forall_const, List.cons.injEq, Value.int.injEq, Value.ref.injEq, Value.long.injEq, and_assoc, exists_and_left, exists_eq_left']
      try simp only [forall_eq]
      refine ⟨by decide, ?_⟩
      have hsF : Sm (XF q) M0 M2 := (hs1.mono fun a _ e => Or.inl e).tr (hs2.mono fun a _ e => Or.inr (by unfold isPile; omega))
      have kk : ∀ j, j < 6 → M2 (q + 5 + s0) j = dv M0 q (j + 1) s0 := fun j hj => by rw [hsF _ _ (by unfold isD at hqd; unfold XF isPile; omega)]; exact (dv_s j hj hs0).symm
      have ks : ∀ j, M2 (q + 3) j = M0 (q + 3) j := fun j => hsF _ _ (by unfold isD at hqd; unfold XF isPile; omega)
      have kq : ∀ j, M2 q j = M0 q j := fun j => hsF _ _ (by unfold isD at hqd; unfold XF isPile; omega)
      subst hB48
      unfold BX0_pullAt_48
      generalize hB51 : BX0_pullAt_51 g Q (T_X0_ask g) (T_X4_value g) (T_X5_bounded g) (T_X1_pullsBy g) = B51
      simp only [T_X0_ask, T_X4_value, T_X5_bounded, T_X1_pullsBy, i_const, i_lconst, i_iload, i_aload, i_lload, i_istore, i_astore, i_lstore, i_iinc, i_bin, i_div, i_un, i_i2l, i_l2i, i_lbin, i_lcmp, i_if, i_icmp, i_dup, i_dup_x1, i_dup2, i_pop, i_geti, i_getr, i_getd, i_puti, i_putz, i_putd, i_iald, i_bald, i_aald, i_iast, i_bast, i_alen, i_keep, i_ret, i_retz, i_reta, i_retl, i_retv, i_callv, i_callk, i_calls, i_mm, i_copy, i_under, i_undld, i_ldcs, i_sw, q_swc0, q_swc1, q_lg0, q_lg1, q_lent0, q_lent1, lset, lset2, q_lins0, q_lins1, q_ldel0, q_ldel1, q_ldel20, q_ldel21, q_lkeep0, q_lkeep1, q_memb0, q_memb1, cat2, Nat.reduceBEq, decide_true, decide_false, decide_eq_true_eq, cond_true, cond_false, Bool.and_true, Bool.and_false, Bool.true_and, Bool.false_and, f_iadd, f_isub, f_imul, f_ishl, f_ishr, f_iushr, f_iand, f_ior, f_idiv, f_irem, f_ineg, f_i2b, f_i2s, f_ladd, f_lmul, c_eq, c_ne, c_lt, c_ge, c_gt, c_le, cc_eq, cc_ne, cc_lt, cc_ge, cc_gt, cc_le, rfo, aof, csum, Value.category, List.take, List.drop, List.reverse, List.reverseAux, List.map, List.sum_cons, List.sum_nil, List.cons_append, List.nil_append, Option.toList, List.mem_cons, List.not_mem_nil, List.length_cons, List.length_nil, reduceIte, Nat.reduceEqDiff, Nat.reduceAdd, Nat.reduceLeDiff, Nat.reduceLT, a_day, Nat.zero_ne_one, Nat.one_ne_zero, false_and, and_false, true_and, and_true, or_false, false_or, or_true, true_or, not_true_eq_false, not_false_eq_true, Nat.zero_add, Nat.add_zero, Nat.le_refl, Nat.lt_irrefl, Nat.zero_lt_succ, Nat.zero_le, forall_const, List.cons.injEq, Value.int.injEq, Value.ref.injEq, Value.long.injEq, and_assoc, exists_and_left, exists_eq_left']
      try simp only [forall_eq]
      refine ⟨so.1, so.2.1, so, ?_⟩
      subst hB51
      unfold BX0_pullAt_51
      simp only [T_X0_ask, T_X4_value, T_X5_bounded, T_X1_pullsBy, i_const, i_lconst, i_iload, i_aload, i_lload, i_istore, i_astore, i_lstore, i_iinc, i_bin, i_div, i_un, i_i2l, i_l2i, i_lbin, i_lcmp, i_if, i_icmp, i_dup, i_dup_x1, i_dup2, i_pop, i_geti, i_getr, i_getd, i_puti, i_putz, i_putd, i_iald, i_bald, i_aald, i_iast, i_bast, i_alen, i_keep, i_ret, i_retz, i_reta, i_retl, i_retv, i_callv, i_callk, i_calls, i_mm, i_copy, i_under, i_undld, i_ldcs, i_sw, q_swc0, q_swc1, q_lg0, q_lg1, q_lent0, q_lent1, lset, lset2, q_lins0, q_lins1, q_ldel0, q_ldel1, q_ldel20, q_ldel21, q_lkeep0, q_lkeep1, q_memb0, q_memb1, cat2, Nat.reduceBEq, decide_true, decide_false, decide_eq_true_eq, cond_true, cond_false, Bool.and_true, Bool.and_false, Bool.true_and, Bool.false_and, f_iadd, f_isub, f_imul, f_ishl, f_ishr, f_iushr, f_iand, f_ior, f_idiv, f_irem, f_ineg, f_i2b, f_i2s, f_ladd, f_lmul, c_eq, c_ne, c_lt, c_ge, c_gt, c_le, cc_eq, cc_ne, cc_lt, cc_ge, cc_gt, cc_le, rfo, aof, csum, Value.category, List.take, List.drop, List.reverse, List.reverseAux, List.map, List.sum_cons, List.sum_nil, List.cons_append, List.nil_append, Option.toList, List.mem_cons, List.not_mem_nil, List.length_cons, List.length_nil, reduceIte, Nat.reduceEqDiff, Nat.reduceAdd, Nat.reduceLeDiff, Nat.reduceLT, a_day, Nat.zero_ne_one, Nat.one_ne_zero, false_and, and_false, true_and, and_true, or_false, false_or, or_true, true_or, not_true_eq_false, not_false_eq_true, Nat.zero_add, Nat.add_zero, Nat.le_refl, Nat.lt_irrefl, Nat.zero_lt_succ, Nat.zero_le, forall_const, List.cons.injEq, Value.int.injEq, Value.ref.injEq, Value.long.injEq, and_assoc, exists_and_left, exists_eq_left']
      try simp only [forall_eq]
      refine ⟨o4, vp_in_nI (by omega) (by omega), o1, o1, ?_⟩
      have hqq : ¬ q = q + 3 := by omega
      have hqq' : ¬ q + 3 = q := by omega
      have hp : kindP (M2 (q + 5 + s0) 0) (bnd (val (xc M1 (8 + 4 * t) 0) (M1 (q + 4))) 99) (M2 (q + 5 + s0) 3 - M2 (q + 5 + s0) 2 + 1) (M2 (q + 5 + s0) 1) = pul (xc M0) (dv M0 q) s0 h0 := by
        rw [kk 0 (by omega), kk 1 (by omega), kk 2 (by omega), kk 3 (by omega), hx1.1, val_congr hf]
        unfold pul rul
        rw [hrix, dv_0 _ _ hh0, hc]; rfl
      rw [hp, hc]
      refine h _ ?_ ?_ ?_ ?_
      · exact ((hsF.mono fun _ _ => XF_P).set _ (Or.inr (Or.inl rfl))).set _ (Or.inl ⟨rfl, Or.inr rfl⟩)
      · simp only [mset_app, hqq, if_false, if_true]
        rw [if_neg (by decide)]; exact kq 7
      · intro j hj
        simp only [mset_app, hqq', if_false, if_true]
        rw [hs1 (q + 3) h0 (by show ¬ q + 3 = q + 4; omega)]
        unfold upd
        by_cases e : j = h0
        · simp only [e, if_true]
        · simp only [e, if_false]; exact ks j
      · simp only [mset_app, hqq, if_false, if_true]; rw [kq 8]
def emk (D : DV) : Nat → Nat
  | 0 => 0
  | s + 1 => if D 6 s = 0 then eorN (eorN (emk D s) (hA D s)) (hB D s) else emk D s
theorem ahd_congr {g g' : Nat → Bool} : ∀ {f : Nat}, (∀ h, h < f → g h = g' h) → ahd g f = ahd g' f
  | 0, _ => rfl
  | f + 1, h => by simp only [ahd, h f (by omega)]; rw [ahd_congr (fun j hj => h j (by omega))]
theorem bhd_congr {g g' : Nat → Bool} : ∀ {k i : Nat}, (∀ h, i ≤ h → h < i + k → g h = g' h) → bhd g k i = bhd g' k i
  | 0, _, _ => rfl
  | k + 1, i, h => by simp only [bhd, h i (by omega) (by omega)]; rw [bhd_congr (fun j h1 h2 => h j (by omega) (by omega))]
theorem ahd_ok (g : Nat → Bool) : ∀ {f : Nat}, f ≤ 16 → hok (ahd g f)
  | 0, _ => Or.inl rfl
  | f + 1, h => by
    simp only [ahd]
    split
    · exact ahd_ok g (by omega)
    · exact Or.inr ⟨f, by omega, rfl⟩
theorem bhd_ok (g : Nat → Bool) : ∀ {k i : Nat}, i + k ≤ 16 → hok (bhd g k i)
  | 0, _, _ => Or.inl rfl
  | k + 1, i, h => by
    simp only [bhd]
    split
    · exact bhd_ok g (by omega)
    · exact Or.inr ⟨i, by omega, rfl⟩
theorem gon_bit {D : DV} {T : Nat} (h : wfD D T) {j : Nat} (hj : j < 16) : (gmk D (dn D)).testBit j = gon D j := gmk_bit hj fun s hs => ⟨(h.2.2.1 s hs).2.2.1, (h.2.2.1 s hs).2.2.2.1⟩
theorem gmk_16 {D : DV} {T : Nat} (h : wfD D T) : gmk D (dn D) < 65536 := gmk_lt fun s hs => (h.2.2.1 s hs).2.2.2.1
def T_X0_weigh (g : WG) (as : List Value) (M : MM) (Q : Option Value → MM → Prop) : Prop := ∃ (q : Nat), as = [.ref q] ∧ okD M q ∧ ∀ M', Sm (XP q) M M' → M' q 7 = nI (gmk (dv M q) (dn (dv M q))) → (∀ h, h < 16 → M' (q + 3) h = strn (xc M) (dv M q) (dn (dv M q)) h) → M' q 8 = nI (emk (dv M q) (dn (dv M q))) → Q none M'
set_option maxRecDepth 100000 in
set_option maxHeartbeats 1000000 in
theorem t_X0_weigh {l : Launch} {g : WG} (hg : Full g) : Ct l g yX0_weigh cX0_weigh 3 ((Option.none : Option FieldType)) 5 (T_X0_weigh g) := by
  refine Ct.of (by decide) (fun as M Q h => ?_) (fun p e s m args below meth c as M Q h C => ?_)
  · obtain ⟨q, rfl, hq, h⟩ := h; exact ⟨by simp, by simp [Value.category]⟩
  · obtain ⟨q, rfl, hq, h⟩ := h
    obtain ⟨o1, o2, o3, o4, o5, ⟨l1, l2, l3, l4⟩, og, ok⟩ := day_ok hg hq.1
    have hqd := hq.1
    have h6 := hq.many
    have hn := hq.n
    obtain ⟨Tn, hwf, -⟩ := hq.2
    obtain ⟨D, hDe⟩ : ∃ D, dv M q = D := ⟨_, rfl⟩
    rw [hDe] at h6 hn h hwf
    have hG := gmk_16 hwf
    obtain ⟨I28, hI28⟩ : ∃ I : Nat → PP, I = (fun n lv st M' => ∃ k, lv = [(0, .ref q), (1, .int (whl D (dn D))), (2, .int (nI k))] ∧ st = [] ∧ k ≤ dn D ∧ n = dn D - k ∧ Sm (XP q) M M' ∧ M' q 7 = nI (gmk D (dn D)) ∧ (∀ j, j < 16 → M' (q + 3) j = strn (xc M) D k j) ∧ M' q 8 = nI (emk D k)) := ⟨_, rfl⟩
    obtain ⟨E28, hE28⟩ : ∃ E : PP, E = (fun lv st M => ∃ n, I28 n lv st M) := ⟨_, rfl⟩
    have iE28 : ∀ n lv st M, I28 n lv st M → E28 lv st M := fun n lv st M h => by rw [hE28]; exact ⟨n, h⟩
    have L28 : Sj p l e 5 s m args below meth c 3 g (MQ below (cQc g Q) args s 0 0 (gA g)) 28 E28 := by
      rw [hE28]
      refine s_ex (s_loop I28 (fun K28 k28 => WX0_weigh_28 C (t_X0_goneHours hg) (by decide) (t_J7_fill_53178) (by decide) (t_X0_whole hg) (by decide) (t_X0_leftAhead hg) (by decide) (t_X0_pullAt hg) (by decide) (t_X0_leftBehind hg) (by decide) k28) ?_)
      intro n lv st M1 K28 hK28 hI; rw [hI28] at hI; obtain ⟨k, rfl, rfl, hk, rfl, hs, m7, m3, m8⟩ := hI
      unfold BX0_weigh_28
      generalize hB68 : BX0_weigh_68 g Q (T_X0_goneHours g) (T_J7_fill_53178 g) (T_X0_whole g) (T_X0_leftAhead g) (T_X0_pullAt g) (T_X0_leftBehind g) K28 = B68
      simp only [T_X0_goneHours, T_J7_fill_53178, T_X0_whole, T_X0_leftAhead, T_X0_pullAt, T_X0_leftBehind, i_const, i_lconst, i_iload, i_aload, i_lload, i_istore, i_astore, i_lstore, i_iinc, i_bin, i_div, i_un, i_i2l, i_l2i, i_lbin, i_lcmp, i_if, i_icmp, i_dup, i_dup_x1, i_dup2, i_pop, i_geti, i_getr, i_getd, i_puti, i_putz, i_putd, i_iald, i_bald, i_aald, i_iast, i_bast, i_alen, i_keep, i_ret, i_retz, i_reta, i_retl, i_retv, i_callv, i_callk, i_calls, i_mm, i_copy, i_under, i_undld, i_ldcs, i_sw, q_swc0, q_swc1, q_lg0, q_lg1, q_lent0, q_lent1, lset, lset2, q_lins0, q_lins1, q_ldel0, q_ldel1, q_ldel20, q_ldel21, q_lkeep0, q_lkeep1, q_memb0, q_memb1, cat2, Nat.reduceBEq, decide_true, decide_false, decide_eq_true_eq, cond_true, cond_false, Bool.and_true, Bool.and_false, Bool.true_and, Bool.false_and, f_iadd, f_isub, f_imul, f_ishl, f_ishr, f_iushr, f_iand, f_ior, f_idiv, f_irem, f_ineg, f_i2b, f_i2s, f_ladd, f_lmul, c_eq, c_ne, c_lt, c_ge, c_gt, c_le, cc_eq, cc_ne, cc_lt, cc_ge, cc_gt, cc_le, rfo, aof, csum, Value.category, List.take, List.drop, List.reverse, List.reverseAux, List.map, List.sum_cons, List.sum_nil, List.cons_append, List.nil_append, Option.toList, List.mem_cons, List.not_mem_nil, List.length_cons, List.length_nil, reduceIte, Nat.reduceEqDiff, Nat.reduceAdd, Nat.reduceLeDiff, Nat.reduceLT, a_day, Nat.zero_ne_one, Nat.one_ne_zero, false_and, and_false, true_and, and_true, or_false, false_or, or_true, true_or, not_true_eq_false, not_false_eq_true, Nat.zero_add, Nat.add_zero, Nat.le_refl, Nat.lt_irrefl, Nat.zero_lt_succ, Nat.zero_le, forall_const, List.cons.injEq, Value.int.injEq, Value.ref.injEq, Value.long.injEq, and_assoc, exists_and_left, exists_eq_left']
      try simp only [forall_eq]
      have hd1 := dv_P hs hqd hqd (by rw [hDe]; exact hn)
      rw [hDe] at hd1
      have hq1 := hq.P hqd hs
      have h61 := hq1.many
      rw [hd1] at h61
      rw [h61]
      refine ⟨o1, fun z => ?_, fun z => ?_⟩
      · have hkk : k = dn D := by
          have := (nI_leI (a := dn D) (b := k) (by omega) (by omega)).mp z
          omega
        subst hkk
        exact h M1 hs m7 m3 m8
      · have hlt : k < dn D := by
          rcases Nat.lt_or_ge k (dn D) with w | w
          · exact w
          · exact absurd (nI_le w (by omega)) z
        have hlt1 : k < dn (dv M1 q) := by rw [hd1]; exact hlt
        have kk : ∀ j, j < 6 → M1 (q + 5 + k) j = D (j + 1) k := fun j hj => by rw [← dv_s j hj hlt1, hd1]
        have so := seam_ok (s := k) hg hqd (by omega)
        obtain ⟨w1, w2, w3, w4, -⟩ := hwf.2.2.1 k hlt
        have hxx : ∀ M', Sm (XP q) M M' → pul (xc M') D k = pul (xc M) D k := fun M' hs' => by
          obtain ⟨t, ht, -, -, hrix⟩ := hq.rule
          rw [hDe] at hrix
          exact pul_X (by rw [hrix]; exact (xc_D (hs'.mono fun _ _ => XP_D) hqd ht).1) k
        rw [nI_clamp (by omega), kk 5 (by omega)]
        refine ⟨o1, o3, vp_in_nI (by omega) (by omega), so, fun y => ?_, fun y => ?_⟩
        · refine hK28 (dn D - (k + 1)) _ _ _ (by omega) ?_
          rw [hI28]
          refine ⟨k + 1, by rw [nI_1], rfl, by omega, rfl, hs, m7, ?_, ?_⟩
          · simp only [strn, y, if_false]; exact m3
          · simp only [emk, y, if_false]; exact m8
        · have y0 : D 6 k = 0 := Decidable.not_not.mp y
          rw [kk 2 (by omega), w1]
          refine ⟨o1, o3, vp_in_nI (by omega) (by omega), o1, o3, vp_in_nI (by omega) (by omega), so, og, ok, fi D k, rfl, o1, by omega, gmk D (dn D), hG, m7, ?_⟩
          rw [show ahd (fun h => (gmk D (dn D)).testBit h) (fi D k) = hA D k from ahd_congr fun j hj => gon_bit hwf (by omega)]
          have hokA : hok (hA D k) := ahd_ok _ (by omega)
          have hokB : hok (hB D k) := bhd_ok _ (by omega)
          subst hB68
          unfold BX0_weigh_68
          generalize hB72 : BX0_weigh_72 g Q (T_X0_goneHours g) (T_J7_fill_53178 g) (T_X0_whole g) (T_X0_leftAhead g) (T_X0_pullAt g) (T_X0_leftBehind g) K28 = B72
          simp only [T_X0_goneHours, T_J7_fill_53178, T_X0_whole, T_X0_leftAhead, T_X0_pullAt, T_X0_leftBehind, i_const, i_lconst, i_iload, i_aload, i_lload, i_istore, i_astore, i_lstore, i_iinc, i_bin, i_div, i_un, i_i2l, i_l2i, i_lbin, i_lcmp, i_if, i_icmp, i_dup, i_dup_x1, i_dup2, i_pop, i_geti, i_getr, i_getd, i_puti, i_putz, i_putd, i_iald, i_bald, i_aald, i_iast, i_bast, i_alen, i_keep, i_ret, i_retz, i_reta, i_retl, i_retv, i_callv, i_callk, i_calls, i_mm, i_copy, i_under, i_undld, i_ldcs, i_sw, q_swc0, q_swc1, q_lg0, q_lg1, q_lent0, q_lent1, lset, lset2, q_lins0, q_lins1, q_ldel0, q_ldel1, q_ldel20, q_ldel21, q_lkeep0, q_lkeep1, q_memb0, q_memb1, cat2, Nat.reduceBEq, decide_true, decide_false, decide_eq_true_eq, cond_true, cond_false, Bool.and_true, Bool.and_false, Bool.true_and, Bool.false_and, f_iadd, f_isub, f_imul, f_ishl, f_ishr, f_iushr, f_iand, f_ior, f_idiv, f_irem, f_ineg, f_i2b, f_i2s, f_ladd, f_lmul, c_eq, c_ne, c_lt, c_ge, c_gt, c_le, cc_eq, cc_ne, cc_lt, cc_ge, cc_gt, cc_le, rfo, aof, csum, Value.category, List.take, List.drop, List.reverse, List.reverseAux, List.map, List.sum_cons, List.sum_nil, List.cons_append, List.nil_append, Option.toList, List.mem_cons, List.not_mem_nil, List.length_cons, List.length_nil, reduceIte, Nat.reduceEqDiff, Nat.reduceAdd, Nat.reduceLeDiff, Nat.reduceLT, a_day, Nat.zero_ne_one, Nat.one_ne_zero, false_and, and_false, true_and, and_true, or_false, false_or, or_true, true_or, not_true_eq_false, not_false_eq_true, Nat.zero_add, Nat.add_zero, Nat.le_refl, Nat.lt_irrefl, Nat.zero_lt_succ, Nat.zero_le, forall_const, List.cons.injEq, Value.int.injEq, Value.ref.injEq, Value.long.injEq, and_assoc, exists_and_left, exists_eq_left']
          try simp only [forall_eq]
          refine ⟨og, ok, k, rfl, by rw [hd1], hq1, hlt1, hokA, fun M2 hs2 a7 a3 a8 => ?_⟩
          rw [hd1] at a3
          have hsM2 := hs.tr hs2
          have hd2 := dv_P hsM2 hqd hqd (by rw [hDe]; exact hn)
          rw [hDe] at hd2
          have hq2 := hq.P hqd hsM2
          have hlt2 : k < dn (dv M2 q) := by rw [hd2]; exact hlt
          have kk2 : ∀ j, j < 6 → M2 (q + 5 + k) j = D (j + 1) k := fun j hj => by rw [← dv_s j hj hlt2, hd2]
          subst hB72
          unfold BX0_weigh_72
          generalize hB92 : BX0_weigh_92 g Q (T_X0_goneHours g) (T_J7_fill_53178 g) (T_X0_whole g) (T_X0_leftAhead g) (T_X0_pullAt g) (T_X0_leftBehind g) K28 = B92
          simp only [T_X0_goneHours, T_J7_fill_53178, T_X0_whole, T_X0_leftAhead, T_X0_pullAt, T_X0_leftBehind, i_const, i_lconst, i_iload, i_aload, i_lload, i_istore, i_astore, i_lstore, i_iinc, i_bin, i_div, i_un, i_i2l, i_l2i, i_lbin, i_lcmp, i_if, i_icmp, i_dup, i_dup_x1, i_dup2, i_pop, i_geti, i_getr, i_getd, i_puti, i_putz, i_putd, i_iald, i_bald, i_aald, i_iast, i_bast, i_alen, i_keep, i_ret, i_retz, i_reta, i_retl, i_retv, i_callv, i_callk, i_calls, i_mm, i_copy, i_under, i_undld, i_ldcs, i_sw, q_swc0, q_swc1, q_lg0, q_lg1, q_lent0, q_lent1, lset, lset2, q_lins0, q_lins1, q_ldel0, q_ldel1, q_ldel20, q_ldel21, q_lkeep0, q_lkeep1, q_memb0, q_memb1, cat2, Nat.reduceBEq, decide_true, decide_false, decide_eq_true_eq, cond_true, cond_false, Bool.and_true, Bool.and_false, Bool.true_and, Bool.false_and, f_iadd, f_isub, f_imul, f_ishl, f_ishr, f_iushr, f_iand, f_ior, f_idiv, f_irem, f_ineg, f_i2b, f_i2s, f_ladd, f_lmul, c_eq, c_ne, c_lt, c_ge, c_gt, c_le, cc_eq, cc_ne, cc_lt, cc_ge, cc_gt, cc_le, rfo, aof, csum, Value.category, List.take, List.drop, List.reverse, List.reverseAux, List.map, List.sum_cons, List.sum_nil, List.cons_append, List.nil_append, Option.toList, List.mem_cons, List.not_mem_nil, List.length_cons, List.length_nil, reduceIte, Nat.reduceEqDiff, Nat.reduceAdd, Nat.reduceLeDiff, Nat.reduceLT, a_day, Nat.zero_ne_one, Nat.one_ne_zero, false_and, and_false, true_and, and_true, or_false, false_or, or_true, true_or, not_true_eq_false, not_false_eq_true, Nat.zero_add, Nat.add_zero, Nat.le_refl, Nat.lt_irrefl, Nat.zero_lt_succ, Nat.zero_le, forall_const, List.cons.injEq, Value.int.injEq, Value.ref.injEq, Value.long.injEq, and_assoc, exists_and_left, exists_eq_left']
          try simp only [forall_eq]
          rw [nI_clamp (by omega), kk2 3 (by omega), w2]
          refine ⟨o1, o3, vp_in_nI (by omega) (by omega), o1, o3, vp_in_nI (by omega) (by omega), so, og, ok, la D k, rfl, o1, by omega, gmk D (dn D), hG, by rw [a7, m7], ?_⟩
          rw [show bhd (fun h => (gmk D (dn D)).testBit h) (15 - la D k) (la D k + 1) = hB D k from bhd_congr fun j h1 h2 => gon_bit hwf (by omega)]
          subst hB92
          unfold BX0_weigh_92
          simp only [T_X0_goneHours, T_J7_fill_53178, T_X0_whole, T_X0_leftAhead, T_X0_pullAt, T_X0_leftBehind, i_const, i_lconst, i_iload, i_aload, i_lload, i_istore, i_astore, i_lstore, i_iinc, i_bin, i_div, i_un, i_i2l, i_l2i, i_lbin, i_lcmp, i_if, i_icmp, i_dup, i_dup_x1, i_dup2, i_pop, i_geti, i_getr, i_getd, i_puti, i_putz, i_putd, i_iald, i_bald, i_aald, i_iast, i_bast, i_alen, i_keep, i_ret, i_retz, i_reta, i_retl, i_retv, i_callv, i_callk, i_calls, i_mm, i_copy, i_under, i_undld, i_ldcs, i_sw, q_swc0, q_swc1, q_lg0, q_lg1, q_lent0, q_lent1, lset, lset2, q_lins0, q_lins1, q_ldel0, q_ldel1, q_ldel20, q_ldel21, q_lkeep0, q_lkeep1, q_memb0, q_memb1, cat2, Nat.reduceBEq, decide_true, decide_false, decide_eq_true_eq, cond_true, cond_false, Bool.and_true, Bool.and_false, Bool.true_and, Bool.false_and, f_iadd, f_isub, f_imul, f_ishl, f_ishr, f_iushr, f_iand, f_ior, f_idiv, f_irem, f_ineg, f_i2b, f_i2s, f_ladd, f_lmul, c_eq, c_ne, c_lt, c_ge, c_gt, c_le, cc_eq, cc_ne, cc_lt, cc_ge, cc_gt, cc_le, rfo, aof, csum, Value.category, List.take, List.drop, List.reverse, List.reverseAux, List.map, List.sum_cons, List.sum_nil, List.cons_append, List.nil_append, Option.toList, List.mem_cons, List.not_mem_nil, List.length_cons, List.length_nil, reduceIte, Nat.reduceEqDiff, Nat.reduceAdd, Nat.reduceLeDiff, Nat.reduceLT, a_day, Nat.zero_ne_one, Nat.one_ne_zero, false_and, and_false, true_and, and_true, or_false, false_or, or_true, true_or, not_true_eq_false, not_false_eq_true, Nat.zero_add, Nat.add_zero, Nat.le_refl, Nat.lt_irrefl, Nat.zero_lt_succ, Nat.zero_le, forall_const, List.cons.injEq, Value.int.injEq, Value.ref.injEq, Value.long.injEq, and_assoc, exists_and_left, exists_eq_left']
          try simp only [forall_eq]
          refine ⟨og, ok, k, rfl, by rw [hd2], hq2, hlt2, hokB, fun M3 hs3 b7 b3 b8 => ?_⟩
          rw [hd2] at b3
          refine hK28 (dn D - (k + 1)) _ _ _ (by omega) ?_
          rw [hI28]
          refine ⟨k + 1, by rw [nI_1], rfl, by omega, rfl, hsM2.tr hs3, by rw [b7, a7, m7], fun j hj => ?_, ?_⟩
          · rw [b3 j hj, hxx M2 hsM2]
            simp only [strn, y0, if_true]
            rw [hxx M1 hs] at a3
            have pa_congr : ∀ {f f' : Nat → Int32} {hh : Int32} {v : Nat → Int32}, hok hh → (∀ j, j < 16 → f j = f' j) → ∀ j, j < 16 → pa f hh v j = pa f' hh v j := by
              intro f f' hh v ho he j hj
              unfold pa
              split
              · rcases ho with rfl | ⟨h0, hh0, rfl⟩
                · next z => exact absurd z (by decide)
                · rw [nI_clamp (by omega)]
                  unfold upd
                  split
                  · rw [he h0 hh0]
                  · exact he j hj
              · exact he j hj
            refine pa_congr hokB (fun i hi => ?_) j hj
            rw [a3 i hi]
            exact pa_congr hokA (fun i2 hi2 => m3 i2 hi2) i hi
          · rw [b8, a8, m8, eor_nI hokA, eor_nI hokB]
            simp only [emk, y0, if_true]
      
    refine s_of (fun lv st M0 hs => ?_) (WX0_weigh_0 C (t_X0_goneHours hg) (by decide) (t_J7_fill_53178) (by decide) (t_X0_whole hg) (by decide) (t_X0_leftAhead hg) (by decide) (t_X0_pullAt hg) (by decide) (t_X0_leftBehind hg) (by decide) L28)
    obtain ⟨rfl, rfl, rfl⟩ := hs
    unfold BX0_weigh_0
    generalize hB5 : BX0_weigh_5 g Q (T_X0_goneHours g) (T_J7_fill_53178 g) (T_X0_whole g) (T_X0_leftAhead g) (T_X0_pullAt g) (T_X0_leftBehind g) E28 = B5
    simp only [T_X0_goneHours, T_J7_fill_53178, T_X0_whole, T_X0_leftAhead, T_X0_pullAt, T_X0_leftBehind, i_const, i_lconst, i_iload, i_aload, i_lload, i_istore, i_astore, i_lstore, i_iinc, i_bin, i_div, i_un, i_i2l, i_l2i, i_lbin, i_lcmp, i_if, i_icmp, i_dup, i_dup_x1, i_dup2, i_pop, i_geti, i_getr, i_getd, i_puti, i_putz, i_putd, i_iald, i_bald, i_aald, i_iast, i_bast, i_alen, i_keep, i_ret, i_retz, i_reta, i_retl, i_retv, i_callv, i_callk, i_calls, i_mm, i_copy, i_under, i_undld, i_ldcs, i_sw, q_swc0, q_swc1, q_lg0, q_lg1, q_lent0, q_lent1, lset, lset2, q_lins0, q_lins1, q_ldel0, q_ldel1, q_ldel20, q_ldel21, q_lkeep0, q_lkeep1, q_memb0, q_memb1, cat2, Nat.reduceBEq, decide_true, decide_false, decide_eq_true_eq, cond_true, cond_false, Bool.and_true, Bool.and_false, Bool.true_and, Bool.false_and, f_iadd, f_isub, f_imul, f_ishl, f_ishr, f_iushr, f_iand, f_ior, f_idiv, f_irem, f_ineg, f_i2b, f_i2s, f_ladd, f_lmul, c_eq, c_ne, c_lt, c_ge, c_gt, c_le, cc_eq, cc_ne, cc_lt, cc_ge, cc_gt, cc_le, rfo, aof, csum, Value.category, List.take, List.drop, List.reverse, List.reverseAux, List.map, List.sum_cons, List.sum_nil, List.cons_append, List.nil_append, Option.toList, List.mem_cons, List.not_mem_nil, List.length_cons, List.length_nil, reduceIte, Nat.reduceEqDiff, Nat.reduceAdd, Nat.reduceLeDiff, Nat.reduceLT, a_day, Nat.zero_ne_one, Nat.one_ne_zero, false_and, and_false, true_and, and_true, or_false, false_or, or_true, true_or, not_true_eq_false, not_false_eq_true, Nat.zero_add, Nat.add_zero, Nat.le_refl, Nat.lt_irrefl, Nat.zero_lt_succ, Nat.zero_le, forall_const, List.cons.injEq, Value.int.injEq, Value.ref.injEq, Value.long.injEq, and_assoc, exists_and_left, exists_eq_left']
    try simp only [forall_eq]
    refine ⟨og, ok, hq, ?_⟩
    subst hB5
    unfold BX0_weigh_5
    generalize hB21 : BX0_weigh_21 g Q (T_X0_goneHours g) (T_J7_fill_53178 g) (T_X0_whole g) (T_X0_leftAhead g) (T_X0_pullAt g) (T_X0_leftBehind g) E28 = B21
    simp only [T_X0_goneHours, T_J7_fill_53178, T_X0_whole, T_X0_leftAhead, T_X0_pullAt, T_X0_leftBehind, i_const, i_lconst, i_iload, i_aload, i_lload, i_istore, i_astore, i_lstore, i_iinc, i_bin, i_div, i_un, i_i2l, i_l2i, i_lbin, i_lcmp, i_if, i_icmp, i_dup, i_dup_x1, i_dup2, i_pop, i_geti, i_getr, i_getd, i_puti, i_putz, i_putd, i_iald, i_bald, i_aald, i_iast, i_bast, i_alen, i_keep, i_ret, i_retz, i_reta, i_retl, i_retv, i_callv, i_callk, i_calls, i_mm, i_copy, i_under, i_undld, i_ldcs, i_sw, q_swc0, q_swc1, q_lg0, q_lg1, q_lent0, q_lent1, lset, lset2, q_lins0, q_lins1, q_ldel0, q_ldel1, q_ldel20, q_ldel21, q_lkeep0, q_lkeep1, q_memb0, q_memb1, cat2, Nat.reduceBEq, decide_true, decide_false, decide_eq_true_eq, cond_true, cond_false, Bool.and_true, Bool.and_false, Bool.true_and, Bool.false_and, f_iadd, f_isub, f_imul, f_ishl, f_ishr, f_iushr, f_iand, f_ior, f_idiv, f_irem, f_ineg, f_i2b, f_i2s, f_ladd, f_lmul, c_eq, c_ne, c_lt, c_ge, c_gt, c_le, cc_eq, cc_ne, cc_lt, cc_ge, cc_gt, cc_le, rfo, aof, csum, Value.category, List.take, List.drop, List.reverse, List.reverseAux, List.map, List.sum_cons, List.sum_nil, List.cons_append, List.nil_append, Option.toList, List.mem_cons, List.not_mem_nil, List.length_cons, List.length_nil, reduceIte, Nat.reduceEqDiff, Nat.reduceAdd, Nat.reduceLeDiff, Nat.reduceLT, a_day, Nat.zero_ne_one, Nat.one_ne_zero, false_and, and_false, true_and, and_true, or_false, false_or, or_true, true_or, not_true_eq_false, not_false_eq_true, Nat.zero_add, Nat.add_zero, Nat.le_refl, Nat.lt_irrefl, Nat.zero_lt_succ, Nat.zero_le, forall_const, List.cons.injEq, Value.int.injEq, Value.ref.injEq, Value.long.injEq, and_assoc, exists_and_left, exists_eq_left']
    try simp only [forall_eq]
    have hqq : ¬ q = q + 3 := by omega
    refine ⟨o1, o1, o1, o4, by omega, fun M1 hs1 hz1 => ?_⟩
    subst hB21
    unfold BX0_weigh_21
    generalize hB25 : BX0_weigh_25 g Q (T_X0_goneHours g) (T_J7_fill_53178 g) (T_X0_whole g) (T_X0_leftAhead g) (T_X0_pullAt g) (T_X0_leftBehind g) E28 = B25
    simp only [T_X0_goneHours, T_J7_fill_53178, T_X0_whole, T_X0_leftAhead, T_X0_pullAt, T_X0_leftBehind, i_const, i_lconst, i_iload, i_aload, i_lload, i_istore, i_astore, i_lstore, i_iinc, i_bin, i_div, i_un, i_i2l, i_l2i, i_lbin, i_lcmp, i_if, i_icmp, i_dup, i_dup_x1, i_dup2, i_pop, i_geti, i_getr, i_getd, i_puti, i_putz, i_putd, i_iald, i_bald, i_aald, i_iast, i_bast, i_alen, i_keep, i_ret, i_retz, i_reta, i_retl, i_retv, i_callv, i_callk, i_calls, i_mm, i_copy, i_under, i_undld, i_ldcs, i_sw, q_swc0, q_swc1, q_lg0, q_lg1, q_lent0, q_lent1, lset, lset2, q_lins0, q_lins1, q_ldel0, q_ldel1, q_ldel20, q_ldel21, q_lkeep0, q_lkeep1, q_memb0, q_memb1, cat2, Nat.reduceBEq, decide_true, decide_false, decide_eq_true_eq, cond_true, cond_false, Bool.and_true, Bool.and_false, Bool.true_and, Bool.false_and, f_iadd, f_isub, f_imul, f_ishl, f_ishr, f_iushr, f_iand, f_ior, f_idiv, f_irem, f_ineg, f_i2b, f_i2s, f_ladd, f_lmul, c_eq, c_ne, c_lt, c_ge, c_gt, c_le, cc_eq, cc_ne, cc_lt, cc_ge, cc_gt, cc_le, rfo, aof, csum, Value.category, List.take, List.drop, List.reverse, List.reverseAux, List.map, List.sum_cons, List.sum_nil, List.cons_append, List.nil_append, Option.toList, List.mem_cons, List.not_mem_nil, List.length_cons, List.length_nil, reduceIte, Nat.reduceEqDiff, Nat.reduceAdd, Nat.reduceLeDiff, Nat.reduceLT, a_day, Nat.zero_ne_one, Nat.one_ne_zero, false_and, and_false, true_and, and_true, or_false, false_or, or_true, true_or, not_true_eq_false, not_false_eq_true, Nat.zero_add, Nat.add_zero, Nat.le_refl, Nat.lt_irrefl, Nat.zero_lt_succ, Nat.zero_le, forall_const, List.cons.injEq, Value.int.injEq, Value.ref.injEq, Value.long.injEq, and_assoc, exists_and_left, exists_eq_left']
    try simp only [forall_eq]
    have hsM : Sm (XP q) M0 M1 := (((Sm.rf.set _ (Or.inl ⟨rfl, Or.inl rfl⟩)).set _ (Or.inl ⟨rfl, Or.inr rfl⟩)).tr (hs1.mono fun a _ e => Or.inr (Or.inl e)))
    have hd1 := dv_P hsM hqd hqd (by rw [hDe]; exact hn)
    have hq1 := hq.P hqd hsM
    refine ⟨og, ok, hqd, hq1.many, hq1.n, ?_⟩
    subst hB25
    unfold BX0_weigh_25
    simp only [T_X0_goneHours, T_J7_fill_53178, T_X0_whole, T_X0_leftAhead, T_X0_pullAt, T_X0_leftBehind, i_const, i_lconst, i_iload, i_aload, i_lload, i_istore, i_astore, i_lstore, i_iinc, i_bin, i_div, i_un, i_i2l, i_l2i, i_lbin, i_lcmp, i_if, i_icmp, i_dup, i_dup_x1, i_dup2, i_pop, i_geti, i_getr, i_getd, i_puti, i_putz, i_putd, i_iald, i_bald, i_aald, i_iast, i_bast, i_alen, i_keep, i_ret, i_retz, i_reta, i_retl, i_retv, i_callv, i_callk, i_calls, i_mm, i_copy, i_under, i_undld, i_ldcs, i_sw, q_swc0, q_swc1, q_lg0, q_lg1, q_lent0, q_lent1, lset, lset2, q_lins0, q_lins1, q_ldel0, q_ldel1, q_ldel20, q_ldel21, q_lkeep0, q_lkeep1, q_memb0, q_memb1, cat2, Nat.reduceBEq, decide_true, decide_false, decide_eq_true_eq, cond_true, cond_false, Bool.and_true, Bool.and_false, Bool.true_and, Bool.false_and, f_iadd, f_isub, f_imul, f_ishl, f_ishr, f_iushr, f_iand, f_ior, f_idiv, f_irem, f_ineg, f_i2b, f_i2s, f_ladd, f_lmul, c_eq, c_ne, c_lt, c_ge, c_gt, c_le, cc_eq, cc_ne, cc_lt, cc_ge, cc_gt, cc_le, rfo, aof, csum, Value.category, List.take, List.drop, List.reverse, List.reverseAux, List.map, List.sum_cons, List.sum_nil, List.cons_append, List.nil_append, Option.toList, List.mem_cons, List.not_mem_nil, List.length_cons, List.length_nil, reduceIte, Nat.reduceEqDiff, Nat.reduceAdd, Nat.reduceLeDiff, Nat.reduceLT, a_day, Nat.zero_ne_one, Nat.one_ne_zero, false_and, and_false, true_and, and_true, or_false, false_or, or_true, true_or, not_true_eq_false, not_false_eq_true, Nat.zero_add, Nat.add_zero, Nat.le_refl, Nat.lt_irrefl, Nat.zero_lt_succ, Nat.zero_le, forall_const, List.cons.injEq, Value.int.injEq, Value.ref.injEq, Value.long.injEq, and_assoc, exists_and_left, exists_eq_left']
    try simp only [forall_eq]
    refine iE28 (dn D - 0) _ _ _ ?_
    rw [hI28]
    rw [hd1, hDe]
    refine ⟨0, rfl, rfl, by omega, rfl, hsM, ?_, fun j hj => ?_, ?_⟩
    · rw [hs1 q 7 (by show ¬ q = q + 3; omega)]; simp [mset_app, hDe]
    · rw [hz1 j (by omega)]; rfl
    · rw [hs1 q 8 (by show ¬ q = q + 3; omega)]; simp [mset_app]; rfl
