/-! ===== the model's machine ===== -/
def MWp (M : MM) (c0 : Nat) (o W : List Int32) : Prop := M 76 23 = nI W.length ∧ PS (M 88) W ∧ M 76 24 = nI (opn W) ∧ M 76 16 = nI (c0 + o.length) ∧ (∀ t x, o[t]? = some x → M 87 (c0 + t) = x) ∧ o.length + W.length ≤ 160 ∧ c0 ≤ 2800
def YMa (c0 : Nat) (a b : Nat) : Prop := (a = 76 ∧ (b = 16 ∨ b = 23 ∨ b = 24)) ∨ a = 88 ∨ (a = 87 ∧ c0 ≤ b)
theorem lay_len (r : Nat) : ∀ (W o : List Int32), (lay r o W).1.length + (lay r o W).2.length = o.length + W.length
  | [], o => rfl
  | w :: W, o => by
    simp only [lay]
    split
    · rw [lay_len r W]; simp; omega
    · simp
theorem opn_le : ∀ W : List Int32, opn W ≤ W.length
  | [] => Nat.le_refl _
  | w :: W => by
    have := opn_le W
    simp only [opn, List.length_cons]
    split <;> omega
theorem MWp.sm {Y : Nat → Nat → Prop} {M M' : MM} {c0 : Nat} {o W : List Int32} (h : MWp M c0 o W) (hs : Sm Y M M') (y : ∀ a b, YMa c0 a b → ¬ Y a b) : MWp M' c0 o W := by
  obtain ⟨a, b, c, d, e, k, l⟩ := h
  have e88 : M' 88 = M 88 := funext fun j => hs _ _ (y _ _ (Or.inr (Or.inl rfl)))
  refine ⟨by rw [hs _ _ (y _ _ (Or.inl ⟨rfl, by omega⟩))]; exact a, by rw [e88]; exact b, by rw [hs _ _ (y _ _ (Or.inl ⟨rfl, by omega⟩))]; exact c, by rw [hs _ _ (y _ _ (Or.inl ⟨rfl, by omega⟩))]; exact d, fun t x ht => ?_, k, l⟩
  rw [hs _ _ (y _ _ (Or.inr (Or.inr ⟨rfl, by omega⟩)))]
  exact e t x ht
theorem rnk_7 (x : Int32) : rnk x ≤ 7 := by
  unfold rnk
  repeat' split
  all_goals decide
theorem o_add {M : MM} {c0 : Nat} {o : List Int32} (x : Int32) (h : ∀ t y, o[t]? = some y → M 87 (c0 + t) = y) : ∀ t y, (o ++ [x])[t]? = some y → mset M 87 (c0 + o.length) x 87 (c0 + t) = y := by
  intro t y ht
  rcases Nat.lt_or_ge t o.length with q | q
  · rw [List.getElem?_append_left q] at ht
    rw [ms_j (by omega)]
    exact h t y ht
  · rw [List.getElem?_append_right q] at ht
    have ht0 : t - o.length = 0 := by
      have := (List.getElem?_eq_some_iff.mp ht).1
      simp at this; omega
    rw [ht0] at ht
    simp at ht
    rw [show c0 + t = c0 + o.length by omega, ms_s]
    exact ht
def T_X6_rank (g : WG) (as : List Value) (M : MM) (Q : Option Value → MM → Prop) : Prop := ∃ x, as = [.int x] ∧ Q (some (.int (nI (rnk x)))) M
set_option maxRecDepth 100000 in
set_option maxHeartbeats 1000000 in
theorem t_X6_rank {l : Launch} {g : WG} (hg : Full g) : Ct l g yX6_rank cX6_rank 1 ((Option.some FieldType.int)) 1 (T_X6_rank g) := by
  refine Ct.of (by decide) (fun as M Q h => ?_) (fun p e s m args below meth c as M Q h C => ?_)
  · obtain ⟨x, rfl, h⟩ := h; exact ⟨by simp, by simp [Value.category]⟩
  · obtain ⟨x, rfl, h⟩ := h
    refine s_of (fun lv st M0 hs => ?_) (WX6_rank_0 C)
    obtain ⟨rfl, rfl, rfl⟩ := hs
    unfold BX6_rank_0
    simp only [i_const, i_lconst, i_iload, i_aload, i_lload, i_istore, i_astore, i_lstore, i_iinc, i_bin, i_div, i_un, i_i2l, i_l2i, i_lbin, i_lcmp, i_if, i_icmp, i_dup, i_dup_x1, i_dup2, i_pop, i_geti, i_getr, i_getd, i_puti, i_putz, i_putd, i_iald, i_bald, i_aald, i_iast, i_bast, i_alen, i_keep, i_ret, i_retz, i_reta, i_retl, i_retv, i_callv, i_callk, i_calls, i_mm, i_copy, i_under, i_undld, i_ldcs, i_sw, q_swc0, q_swc1, q_lg0, q_lg1, q_lent0, q_lent1, lset, lset2, q_lins0, q_lins1, q_ldel0, q_ldel1, q_ldel20, q_ldel21, q_lkeep0, q_lkeep1, q_memb0, q_memb1, cat2, Nat.reduceBEq, decide_true, decide_false, decide_eq_true_eq, cond_true, cond_false, Bool.and_true, Bool.and_false, Bool.true_and, Bool.false_and, f_iadd, f_isub, f_imul, f_ishl, f_ishr, f_iushr, f_iand, f_ior, f_idiv, f_irem, f_ineg, f_i2b, f_i2s, f_ladd, f_lmul, c_eq, c_ne, c_lt, c_ge, c_gt, c_le, cc_eq, cc_ne, cc_lt, cc_ge, cc_gt, cc_le, rfo, aof, csum, Value.category, List.take, List.drop, List.reverse, List.reverseAux, List.map, List.sum_cons, List.sum_nil, List.cons_append, List.nil_append, Option.toList, List.mem_cons, List.not_mem_nil, List.length_cons, List.length_nil, reduceIte, Nat.reduceEqDiff, Nat.reduceAdd, Nat.reduceLeDiff, Nat.reduceLT, a_day, Nat.zero_ne_one, Nat.one_ne_zero, false_and, and_false, true_and, and_true, or_false, false_or, or_true, true_or, not_true_eq_false, not_false_eq_true, Nat.zero_add, Nat.add_zero, Nat.le_refl, Nat.lt_irrefl, Nat.zero_lt_succ, Nat.zero_le, forall_const, List.cons.injEq, Value.int.injEq, Value.ref.injEq, Value.long.injEq, and_assoc, exists_and_left, exists_eq_left']
    try simp only [forall_eq]
    have t : ∀ y v : Int32, nI (rnk y) = v → x = y → Q (some (.int v)) M0 := fun y v hv e => by subst e; rw [← hv]; exact h
    refine ⟨t 6 5 rfl, fun e6 => ⟨t 7 5 rfl, fun e7 => ⟨t 8 6 rfl, fun e8 => ⟨t 9 4 rfl, fun e9 => ⟨t 10 4 rfl, fun e10 => ⟨t 11 2 rfl, fun e11 => ⟨t 12 1 rfl, fun e12 => ⟨t 13 3 rfl, fun e13 => ⟨t 14 7 rfl, fun e14 => ?_⟩⟩⟩⟩⟩⟩⟩⟩⟩
    have : rnk x = 0 := by
      unfold rnk
      rw [if_neg e12, if_neg e11, if_neg e13, if_neg (fun q => q.elim e9 e10), if_neg (fun q => q.elim e6 e7), if_neg e8, if_neg e14]
    rw [this] at h
    exact h
def T_X6_codes (g : WG) (as : List Value) (M : MM) (Q : Option Value → MM → Prop) : Prop := ∃ x c, as = [.ref 76, .int x] ∧ M 76 16 = nI c ∧ c < 3000 ∧ Q none (mset (mset M 76 16 (nI (c + 1))) 87 c x)
set_option maxRecDepth 100000 in
set_option maxHeartbeats 1000000 in
theorem t_X6_codes {l : Launch} {g : WG} (hg : Full g) : Ct l g yX6_codes cX6_codes 2 ((Option.none : Option FieldType)) 1 (T_X6_codes g) := by
  refine Ct.of (by decide) (fun as M Q h => ?_) (fun p e s m args below meth c as M Q h C => ?_)
  · obtain ⟨x, c0, rfl, h16, hc, h⟩ := h; exact ⟨by simp, by simp [Value.category]⟩
  · obtain ⟨x, c0, rfl, h16, hc, h⟩ := h
    refine s_of (fun lv st M0 hs => ?_) (WX6_codes_0 C)
    obtain ⟨rfl, rfl, rfl⟩ := hs
    unfold BX6_codes_0
    simp only [i_const, i_lconst, i_iload, i_aload, i_lload, i_istore, i_astore, i_lstore, i_iinc, i_bin, i_div, i_un, i_i2l, i_l2i, i_lbin, i_lcmp, i_if, i_icmp, i_dup, i_dup_x1, i_dup2, i_pop, i_geti, i_getr, i_getd, i_puti, i_putz, i_putd, i_iald, i_bald, i_aald, i_iast, i_bast, i_alen, i_keep, i_ret, i_retz, i_reta, i_retl, i_retv, i_callv, i_callk, i_calls, i_mm, i_copy, i_under, i_undld, i_ldcs, i_sw, q_swc0, q_swc1, q_lg0, q_lg1, q_lent0, q_lent1, lset, lset2, q_lins0, q_lins1, q_ldel0, q_ldel1, q_ldel20, q_ldel21, q_lkeep0, q_lkeep1, q_memb0, q_memb1, cat2, Nat.reduceBEq, decide_true, decide_false, decide_eq_true_eq, cond_true, cond_false, Bool.and_true, Bool.and_false, Bool.true_and, Bool.false_and, f_iadd, f_isub, f_imul, f_ishl, f_ishr, f_iushr, f_iand, f_ior, f_idiv, f_irem, f_ineg, f_i2b, f_i2s, f_ladd, f_lmul, c_eq, c_ne, c_lt, c_ge, c_gt, c_le, cc_eq, cc_ne, cc_lt, cc_ge, cc_gt, cc_le, rfo, aof, csum, Value.category, List.take, List.drop, List.reverse, List.reverseAux, List.map, List.sum_cons, List.sum_nil, List.cons_append, List.nil_append, Option.toList, List.mem_cons, List.not_mem_nil, List.length_cons, List.length_nil, reduceIte, Nat.reduceEqDiff, Nat.reduceAdd, Nat.reduceLeDiff, Nat.reduceLT, a_day, Nat.zero_ne_one, Nat.one_ne_zero, false_and, and_false, true_and, and_true, or_false, false_or, or_true, true_or, not_true_eq_false, not_false_eq_true, Nat.zero_add, Nat.add_zero, Nat.le_refl, Nat.lt_irrefl, Nat.zero_lt_succ, Nat.zero_le, forall_const, List.cons.injEq, Value.int.injEq, Value.ref.injEq, Value.long.injEq, and_assoc, exists_and_left, exists_eq_left']
    try simp only [forall_eq]
    rw [h16, nI_1, nI_clamp (by omega)]
    exact ⟨m_76 hg, m_76 hg, m_76 hg, m_87 hg, vm l_87 hc (by decide), h⟩
def T_X6_lays (g : WG) (as : List Value) (M : MM) (Q : Option Value → MM → Prop) : Prop := ∃ r c0 o W, as = [.ref 76, .int (nI r)] ∧ 1 ≤ r ∧ r ≤ 7 ∧ MWp M c0 o W ∧ ∀ M', Sm (YMa c0) M M' → MWp M' c0 (lay r o W).1 (lay r o W).2 → Q none M'
set_option maxRecDepth 100000 in
set_option maxHeartbeats 1000000 in
theorem t_X6_lays {l : Launch} {g : WG} (hg : Full g) : Ct l g yX6_lays cX6_lays 2 ((Option.none : Option FieldType)) 2 (T_X6_lays g) := by
  refine Ct.of (by decide) (fun as M Q h => ?_) (fun p e s m args below meth c as M Q h C => ?_)
  · obtain ⟨r, c0, o, W, rfl, hr1, hr7, hM, h⟩ := h; exact ⟨by simp, by simp [Value.category]⟩
  · obtain ⟨r, c0, o, W, rfl, hr1, hr7, hM, h⟩ := h
    obtain ⟨I0, hI0⟩ : ∃ I : Nat → PP, I = (fun n lv st M' => ∃ o' W', lv = [(0, .ref 76), (1, .int (nI r))] ∧ st = [] ∧ n = W'.length ∧ Sm (YMa c0) M M' ∧ MWp M' c0 o' W' ∧ lay r o' W' = lay r o W) := ⟨_, rfl⟩
    obtain ⟨E0, hE0⟩ : ∃ E : PP, E = (fun lv st M => ∃ n, I0 n lv st M) := ⟨_, rfl⟩
    have iE0 : ∀ n lv st M, I0 n lv st M → E0 lv st M := fun n lv st M h => by rw [hE0]; exact ⟨n, h⟩
    have L0 : Sj p l e 2 s m args below meth c 2 g (MQ below (cQc g Q) args s 0 0 (gA g)) 0 E0 := by
      rw [hE0]
      refine s_ex (s_loop I0 (fun K0 k0 => WX6_lays_0 C (t_X6_rank hg) (by decide) (t_X6_codes hg) (by decide) k0) ?_)
      intro n lv st M1 K0 hK0 hI; rw [hI0] at hI; obtain ⟨o', W', rfl, rfl, rfl, hs, hM', he⟩ := hI
      unfold BX6_lays_0
      generalize hB21 : BX6_lays_21 g Q (T_X6_rank g) (T_X6_codes g) K0 = B21
      simp only [T_X6_rank, T_X6_codes, i_const, i_lconst, i_iload, i_aload, i_lload, i_istore, i_astore, i_lstore, i_iinc, i_bin, i_div, i_un, i_i2l, i_l2i, i_lbin, i_lcmp, i_if, i_icmp, i_dup, i_dup_x1, i_dup2, i_pop, i_geti, i_getr, i_getd, i_puti, i_putz, i_putd, i_iald, i_bald, i_aald, i_iast, i_bast, i_alen, i_keep, i_ret, i_retz, i_reta, i_retl, i_retv, i_callv, i_callk, i_calls, i_mm, i_copy, i_under, i_undld, i_ldcs, i_sw, q_swc0, q_swc1, q_lg0, q_lg1, q_lent0, q_lent1, lset, lset2, q_lins0, q_lins1, q_ldel0, q_ldel1, q_ldel20, q_ldel21, q_lkeep0, q_lkeep1, q_memb0, q_memb1, cat2, Nat.reduceBEq, decide_true, decide_false, decide_eq_true_eq, cond_true, cond_false, Bool.and_true, Bool.and_false, Bool.true_and, Bool.false_and, f_iadd, f_isub, f_imul, f_ishl, f_ishr, f_iushr, f_iand, f_ior, f_idiv, f_irem, f_ineg, f_i2b, f_i2s, f_ladd, f_lmul, c_eq, c_ne, c_lt, c_ge, c_gt, c_le, cc_eq, cc_ne, cc_lt, cc_ge, cc_gt, cc_le, rfo, aof, csum, Value.category, List.take, List.drop, List.reverse, List.reverseAux, List.map, List.sum_cons, List.sum_nil, List.cons_append, List.nil_append, Option.toList, List.mem_cons, List.not_mem_nil, List.length_cons, List.length_nil, reduceIte, Nat.reduceEqDiff, Nat.reduceAdd, Nat.reduceLeDiff, Nat.reduceLT, a_day, Nat.zero_ne_one, Nat.one_ne_zero, false_and, and_false, true_and, and_true, or_false, false_or, or_true, true_or, not_true_eq_false, not_false_eq_true, Nat.zero_add, Nat.add_zero, Nat.le_refl, Nat.lt_irrefl, Nat.zero_lt_succ, Nat.zero_le, forall_const, List.cons.injEq, Value.int.injEq, Value.ref.injEq, Value.long.injEq, and_assoc, exists_and_left, exists_eq_left']
      try simp only [forall_eq]
      obtain ⟨a1, a2, a3, a4, a5, a6, a7⟩ := hM'
      cases W' with
      | nil =>
        have he2 : lay r o W = (o', []) := he.symm
        have fin := h M1 hs (by rw [he2]; exact ⟨a1, a2, a3, a4, a5, a6, a7⟩)
        rw [a1]
        exact ⟨m_76 hg, fun _ => fin, fun z => absurd (show nI 0 ≤ 0 by decide) z⟩
      | cons w W1 =>
        have hl : W1.length < 200 := by simp at a6; omega
        have ew : M1 88 W1.length = w := a2.1
        rw [a1, show (w :: W1).length = W1.length + 1 from rfl, nI_pred, nI_clamp (by omega), ew]
        refine ⟨m_76 hg, fun z => absurd z (nI_nle (by omega) (by omega)), fun _ => ⟨m_76 hg, m_76 hg, m_88 hg, vm l_88 hl (by decide), ?_⟩⟩
        subst hB21
        unfold BX6_lays_21
        generalize hB48 : BX6_lays_48 g Q (T_X6_rank g) (T_X6_codes g) K0 = B48
        simp only [T_X6_rank, T_X6_codes, i_const, i_lconst, i_iload, i_aload, i_lload, i_istore, i_astore, i_lstore, i_iinc, i_bin, i_div, i_un, i_i2l, i_l2i, i_lbin, i_lcmp, i_if, i_icmp, i_dup, i_dup_x1, i_dup2, i_pop, i_geti, i_getr, i_getd, i_puti, i_putz, i_putd, i_iald, i_bald, i_aald, i_iast, i_bast, i_alen, i_keep, i_ret, i_retz, i_reta, i_retl, i_retv, i_callv, i_callk, i_calls, i_mm, i_copy, i_under, i_undld, i_ldcs, i_sw, q_swc0, q_swc1, q_lg0, q_lg1, q_lent0, q_lent1, lset, lset2, q_lins0, q_lins1, q_ldel0, q_ldel1, q_ldel20, q_ldel21, q_lkeep0, q_lkeep1, q_memb0, q_memb1, cat2, Nat.reduceBEq, decide_true, decide_false, decide_eq_true_eq, cond_true, cond_false, Bool.and_true, Bool.and_false, Bool.true_and, Bool.false_and, f_iadd, f_isub, f_imul, f_ishl, f_ishr, f_iushr, f_iand, f_ior, f_idiv, f_irem, f_ineg, f_i2b, f_i2s, f_ladd, f_lmul, c_eq, c_ne, c_lt, c_ge, c_gt, c_le, cc_eq, cc_ne, cc_lt, cc_ge, cc_gt, cc_le, rfo, aof, csum, Value.category, List.take, List.drop, List.reverse, List.reverseAux, List.map, List.sum_cons, List.sum_nil, List.cons_append, List.nil_append, Option.toList, List.mem_cons, List.not_mem_nil, List.length_cons, List.length_nil, reduceIte, Nat.reduceEqDiff, Nat.reduceAdd, Nat.reduceLeDiff, Nat.reduceLT, a_day, Nat.zero_ne_one, Nat.one_ne_zero, false_and, and_false, true_and, and_true, or_false, false_or, or_true, true_or, not_true_eq_false, not_false_eq_true, Nat.zero_add, Nat.add_zero, Nat.le_refl, Nat.lt_irrefl, Nat.zero_lt_succ, Nat.zero_le, forall_const, List.cons.injEq, Value.int.injEq, Value.ref.injEq, Value.long.injEq, and_assoc, exists_and_left, exists_eq_left']
        try simp only [forall_eq]
        have a1' : M1 76 23 = nI (W1.length + 1) := a1
        have q88 : mset M1 76 23 (nI W1.length) 88 = M1 88 := funext fun j => ms_q (by decide)
        rw [a1', nI_pred, ms_s, nI_clamp (by omega), q88, ew, nI_ltI (by have : ∀ x, rnk x ≤ 7 := rnk_7; have := this w; omega) (by omega)]
        refine ⟨fun z => ?_, fun z => ⟨m_76 hg, m_76 hg, m_76 hg, m_76 hg, m_88 hg, vm l_88 hl (by decide), (m_76 hg).1, (m_76 hg).2.1, c0 + o'.length, by rw [ms_j (by decide)]; exact a4, by simp at a6; omega, ?_⟩⟩
        · have he2 : lay r o' (w :: W1) = (o', w :: W1) := lay_stop _ z
          rw [he2] at he
          exact h M1 hs (by rw [← he]; exact ⟨a1, a2, a3, a4, a5, a6, a7⟩)
        · rw [lay_cons _ (by omega)] at he
          have hs4 : Sm (YMa c0) M (mset (mset (mset M1 76 23 (nI W1.length)) 76 16 (nI (c0 + o'.length + 1))) 87 (c0 + o'.length) w) := ((hs.set _ (Or.inl ⟨rfl, by omega⟩)).set _ (Or.inl ⟨rfl, by omega⟩)).set _ (Or.inr (Or.inr ⟨rfl, by omega⟩))
          have f88 : mset (mset (mset M1 76 23 (nI W1.length)) 76 16 (nI (c0 + o'.length + 1))) 87 (c0 + o'.length) w 88 = M1 88 := funext fun j => by rw [ms_q (by decide), ms_q (by decide), ms_q (by decide)]
          have f23 : mset (mset (mset M1 76 23 (nI W1.length)) 76 16 (nI (c0 + o'.length + 1))) 87 (c0 + o'.length) w 76 23 = nI W1.length := by rw [ms_q (by decide), ms_j (by decide), ms_s]
          have f16 : mset (mset (mset M1 76 23 (nI W1.length)) 76 16 (nI (c0 + o'.length + 1))) 87 (c0 + o'.length) w 76 16 = nI (c0 + o'.length + 1) := by rw [ms_q (by decide), ms_s]
          have f24 : mset (mset (mset M1 76 23 (nI W1.length)) 76 16 (nI (c0 + o'.length + 1))) 87 (c0 + o'.length) w 76 24 = nI (opn (w :: W1)) := by rw [ms_q (by decide), ms_j (by decide), ms_j (by decide)]; exact a3
          have f87 : ∀ t y, (o' ++ [w])[t]? = some y → mset (mset (mset M1 76 23 (nI W1.length)) 76 16 (nI (c0 + o'.length + 1))) 87 (c0 + o'.length) w 87 (c0 + t) = y := o_add w (fun t y ht => by rw [ms_q (by decide), ms_q (by decide)]; exact a5 t y ht)
          obtain ⟨M4, hM4⟩ : ∃ M4, mset (mset (mset M1 76 23 (nI W1.length)) 76 16 (nI (c0 + o'.length + 1))) 87 (c0 + o'.length) w = M4 := ⟨_, rfl⟩
          rw [hM4] at hs4 f88 f23 f16 f24 f87 ⊢
          have fin : ∀ M5, Sm (YMa c0) M M5 → M5 88 = M4 88 → M5 87 = M4 87 → M5 76 23 = M4 76 23 → M5 76 16 = M4 76 16 → M5 76 24 = nI (opn W1) → K0 [(0, .ref 76), (1, .int (nI r))] [] M5 := by
            intro M5 b1 b2 b3 b4 b5 b6
            refine hK0 W1.length _ _ _ (by simp) ?_
            rw [hI0]
            refine ⟨o' ++ [w], W1, rfl, rfl, rfl, b1, ⟨by rw [b4]; exact f23, by rw [b2, f88]; exact a2.2, b6, by rw [b5, f16]; simp [Nat.add_assoc], fun t y ht => by rw [b3]; exact f87 t y ht, by simp at a6 ⊢; omega, a7⟩, he⟩
          have go76 : (w = 13 ∨ w = 14) → BX6_lays_76 g Q (T_X6_rank g) (T_X6_codes g) K0 [(0, .ref 76), (1, .int (nI r))] [] M4 := by
            intro hw
            unfold BX6_lays_76
            simp only [i_const, i_lconst, i_iload, i_aload, i_lload, i_istore, i_astore, i_lstore, i_iinc, i_bin, i_div, i_un, i_i2l, i_l2i, i_lbin, i_lcmp, i_if, i_icmp, i_dup, i_dup_x1, i_dup2, i_pop, i_geti, i_getr, i_getd, i_puti, i_putz, i_putd, i_iald, i_bald, i_aald, i_iast, i_bast, i_alen, i_keep, i_ret, i_retz, i_reta, i_retl, i_retv, i_callv, i_callk, i_calls, i_mm, i_copy, i_under, i_undld, i_ldcs, i_sw, q_swc0, q_swc1, q_lg0, q_lg1, q_lent0, q_lent1, lset, lset2, q_lins0, q_lins1, q_ldel0, q_ldel1, q_ldel20, q_ldel21, q_lkeep0, q_lkeep1, q_memb0, q_memb1, cat2, Nat.reduceBEq, decide_true, decide_false, decide_eq_true_eq, cond_true, cond_false, Bool.and_true, Bool.and_false, Bool.true_and, Bool.false_and, f_iadd, f_isub, f_imul, f_ishl, f_ishr, f_iushr, f_iand, f_ior, f_idiv, f_irem, f_ineg, f_i2b, f_i2s, f_ladd, f_lmul, c_eq, c_ne, c_lt, c_ge, c_gt, c_le, cc_eq, cc_ne, cc_lt, cc_ge, cc_gt, cc_le, rfo, aof, csum, Value.category, List.take, List.drop, List.reverse, List.reverseAux, List.map, List.sum_cons, List.sum_nil, List.cons_append, List.nil_append, Option.toList, List.mem_cons, List.not_mem_nil, List.length_cons, List.length_nil, reduceIte, Nat.reduceEqDiff, Nat.reduceAdd, Nat.reduceLeDiff, Nat.reduceLT, a_day, Nat.zero_ne_one, Nat.one_ne_zero, false_and, and_false, true_and, and_true, or_false, false_or, or_true, true_or, not_true_eq_false, not_false_eq_true, Nat.zero_add, Nat.add_zero, Nat.le_refl, Nat.lt_irrefl, Nat.zero_lt_succ, Nat.zero_le, forall_const, List.cons.injEq, Value.int.injEq, Value.ref.injEq, Value.long.injEq, and_assoc, exists_and_left, exists_eq_left', forall_eq]
            have ho : opn (w :: W1) = opn W1 + 1 := by rcases hw with rfl | rfl <;> rfl
            rw [f24, ho, nI_pred]
            exact ⟨m_76 hg, m_76 hg, fin _ (hs4.set _ (Or.inl ⟨rfl, by omega⟩)) (funext fun j => ms_q (by decide)) (funext fun j => ms_q (by decide)) (by rw [ms_j (by decide)]) (by rw [ms_j (by decide)]) (ms_s _ _ _ _)⟩
          subst hB48
          unfold BX6_lays_48
          generalize hB76 : BX6_lays_76 g Q (T_X6_rank g) (T_X6_codes g) K0 = B76
          simp only [T_X6_rank, T_X6_codes, i_const, i_lconst, i_iload, i_aload, i_lload, i_istore, i_astore, i_lstore, i_iinc, i_bin, i_div, i_un, i_i2l, i_l2i, i_lbin, i_lcmp, i_if, i_icmp, i_dup, i_dup_x1, i_dup2, i_pop, i_geti, i_getr, i_getd, i_puti, i_putz, i_putd, i_iald, i_bald, i_aald, i_iast, i_bast, i_alen, i_keep, i_ret, i_retz, i_reta, i_retl, i_retv, i_callv, i_callk, i_calls, i_mm, i_copy, i_under, i_undld, i_ldcs, i_sw, q_swc0, q_swc1, q_lg0, q_lg1, q_lent0, q_lent1, lset, lset2, q_lins0, q_lins1, q_ldel0, q_ldel1, q_ldel20, q_ldel21, q_lkeep0, q_lkeep1, q_memb0, q_memb1, cat2, Nat.reduceBEq, decide_true, decide_false, decide_eq_true_eq, cond_true, cond_false, Bool.and_true, Bool.and_false, Bool.true_and, Bool.false_and, f_iadd, f_isub, f_imul, f_ishl, f_ishr, f_iushr, f_iand, f_ior, f_idiv, f_irem, f_ineg, f_i2b, f_i2s, f_ladd, f_lmul, c_eq, c_ne, c_lt, c_ge, c_gt, c_le, cc_eq, cc_ne, cc_lt, cc_ge, cc_gt, cc_le, rfo, aof, csum, Value.category, List.take, List.drop, List.reverse, List.reverseAux, List.map, List.sum_cons, List.sum_nil, List.cons_append, List.nil_append, Option.toList, List.mem_cons, List.not_mem_nil, List.length_cons, List.length_nil, reduceIte, Nat.reduceEqDiff, Nat.reduceAdd, Nat.reduceLeDiff, Nat.reduceLT, a_day, Nat.zero_ne_one, Nat.one_ne_zero, false_and, and_false, true_and, and_true, or_false, false_or, or_true, true_or, not_true_eq_false, not_false_eq_true, Nat.zero_add, Nat.add_zero, Nat.le_refl, Nat.lt_irrefl, Nat.zero_lt_succ, Nat.zero_le, forall_const, List.cons.injEq, Value.int.injEq, Value.ref.injEq, Value.long.injEq, and_assoc, exists_and_left, exists_eq_left']
          try simp only [forall_eq]
          rw [f23, nI_clamp (by omega), f88, ew]
          refine ⟨m_76 hg, m_76 hg, m_88 hg, vm l_88 hl (by decide), fun y => ?_, fun y => ⟨m_76 hg, m_76 hg, m_88 hg, vm l_88 hl (by decide), fun u => ?_, fun u => ?_⟩⟩
          · subst hB76; exact go76 (Or.inl y)
          · refine fin M4 hs4 rfl rfl rfl rfl ?_
            rw [f24]
            have : ¬ rnk w = 0 := by omega
            simp only [opn, y, u, this, or_self, if_false, Nat.add_zero]
          · subst hB76; exact go76 (Or.inr (Decidable.not_not.mp u))
      
    refine s_of (fun lv st M0 hs => ?_) L0
    obtain ⟨rfl, rfl, rfl⟩ := hs
    simp only [i_const, i_lconst, i_iload, i_aload, i_lload, i_istore, i_astore, i_lstore, i_iinc, i_bin, i_div, i_un, i_i2l, i_l2i, i_lbin, i_lcmp, i_if, i_icmp, i_dup, i_dup_x1, i_dup2, i_pop, i_geti, i_getr, i_getd, i_puti, i_putz, i_putd, i_iald, i_bald, i_aald, i_iast, i_bast, i_alen, i_keep, i_ret, i_retz, i_reta, i_retl, i_retv, i_callv, i_callk, i_calls, i_mm, i_copy, i_under, i_undld, i_ldcs, i_sw, q_swc0, q_swc1, q_lg0, q_lg1, q_lent0, q_lent1, lset, lset2, q_lins0, q_lins1, q_ldel0, q_ldel1, q_ldel20, q_ldel21, q_lkeep0, q_lkeep1, q_memb0, q_memb1, cat2, Nat.reduceBEq, decide_true, decide_false, decide_eq_true_eq, cond_true, cond_false, Bool.and_true, Bool.and_false, Bool.true_and, Bool.false_and, f_iadd, f_isub, f_imul, f_ishl, f_ishr, f_iushr, f_iand, f_ior, f_idiv, f_irem, f_ineg, f_i2b, f_i2s, f_ladd, f_lmul, c_eq, c_ne, c_lt, c_ge, c_gt, c_le, cc_eq, cc_ne, cc_lt, cc_ge, cc_gt, cc_le, rfo, aof, csum, Value.category, List.take, List.drop, List.reverse, List.reverseAux, List.map, List.sum_cons, List.sum_nil, List.cons_append, List.nil_append, Option.toList, List.mem_cons, List.not_mem_nil, List.length_cons, List.length_nil, reduceIte, Nat.reduceEqDiff, Nat.reduceAdd, Nat.reduceLeDiff, Nat.reduceLT, a_day, Nat.zero_ne_one, Nat.one_ne_zero, false_and, and_false, true_and, and_true, or_false, false_or, or_true, true_or, not_true_eq_false, not_false_eq_true, Nat.zero_add, Nat.add_zero, Nat.le_refl, Nat.lt_irrefl, Nat.zero_lt_succ, Nat.zero_le, forall_const, List.cons.injEq, Value.int.injEq, Value.ref.injEq, Value.long.injEq, and_assoc, exists_and_left, exists_eq_left']
    refine iE0 W.length _ _ _ ?_
    rw [hI0]
    exact ⟨o, W, rfl, rfl, rfl, Sm.rf, hM, rfl⟩
