/-! ===== the model's machine: one step ===== -/
theorem TKm.name {M : MM} {s v : Int32} (h : TKm M s v) (h19 : M 76 19 = 119) : (∀ w, w < 6 → M 76 21 = cW w → s = 3 ∧ v = nI w) ∧ ((∀ w, w < 6 → ¬ M 76 21 = cW w) → ¬ s = 3) := by
  rcases h with ⟨rfl, h⟩ | ⟨rfl, h⟩ | ⟨rfl, h, -⟩ | ⟨u, hu, h, h21, rfl, hv⟩ | ⟨h1, h⟩
  · rw [h] at h19; exact absurd h19 (by decide)
  · rw [h] at h19; exact absurd h19 (by decide)
  · rw [h] at h19; exact absurd h19 (by decide)
  · refine ⟨fun w hw e => ?_, fun hn => ?_⟩
    · have e2 := cW_inj _ hu _ (by omega) (h21.symm.trans e)
      subst e2
      exact ⟨if_pos hw, hv hw⟩
    · have h6 : ¬ u < 6 := fun q => hn u q h21
      rw [if_neg h6]
      exact (show ∀ u, u < 12 → 6 ≤ u → ¬ nI (u - 2) = 3 by decide) u hu (by omega)
  · have : ¬ s = 119 := by rcases sig_8 h1 with rfl | rfl | rfl | rfl | rfl | rfl | rfl | rfl <;> decide
    rw [h] at h19; exact absurd h19 this
theorem TKm.num {M : MM} {s v : Int32} (h : TKm M s v) : (M 76 19 = 48 ↔ s = 2) ∧ (s = 2 → M 76 20 = v) := by
  constructor
  · rw [h.knd]
    rcases h.srt with rfl | rfl | rfl | rfl | rfl | rfl | rfl | rfl | rfl | rfl | rfl | rfl | rfl | rfl | rfl | rfl | rfl | rfl <;> decide
  · rcases h with ⟨rfl, h⟩ | ⟨rfl, h⟩ | ⟨rfl, h, h2⟩ | ⟨u, hu, h, h21, rfl, hv⟩ | ⟨h1, h⟩
    · exact fun q => absurd q (by decide)
    · exact fun q => absurd q (by decide)
    · exact fun _ => h2
    · exact fun q => absurd q ((show ∀ u, u < 12 → ¬ (if u < 6 then (3 : Int32) else nI (u - 2)) = 2 by decide) u hu)
    · intro q
      subst q
      exact absurd h1 (by decide)
theorem TKm.w119 {M : MM} {s v : Int32} (h : TKm M s v) : (s = 3 ∨ s = 4 ∨ s = 5 ∨ s = 6 ∨ s = 7 ∨ s = 8 ∨ s = 9) ↔ M 76 19 = 119 := by
  rw [h.knd]
  rcases h.srt with rfl | rfl | rfl | rfl | rfl | rfl | rfl | rfl | rfl | rfl | rfl | rfl | rfl | rfl | rfl | rfl | rfl | rfl <;> decide
theorem TKm.not {M : MM} {s v : Int32} (h : TKm M s v) : (M 76 19 = 119 ∧ M 76 21 = 10631) ↔ s = 9 :=
  ⟨fun q => (h.word q.1 (w := 11) (by decide) (by decide)).mp q.2, fun q => by
    have h19 := h.w119.mp (by simp [q])
    exact ⟨h19, (h.word h19 (w := 11) (by decide) (by decide)).mpr q⟩⟩
theorem MWp.code {M : MM} {c0 : Nat} {o W : List Int32} (h : MWp M c0 o W) (hl : o.length + W.length < 160) (x : Int32) : MWp (mset (mset M 76 16 (nI (c0 + o.length + 1))) 87 (c0 + o.length) x) c0 (o ++ [x]) W ∧ Sm (YMa c0) M (mset (mset M 76 16 (nI (c0 + o.length + 1))) 87 (c0 + o.length) x) := by
  obtain ⟨a1, a2, a3, a4, a5, a6, a7⟩ := h
  refine ⟨⟨?_, ?_, ?_, ?_, ?_, by simp; omega, a7⟩, (Sm.rf.set _ (Or.inl ⟨rfl, by omega⟩)).set _ (Or.inr (Or.inr ⟨rfl, by omega⟩))⟩
  · rw [ms_q (by decide), ms_j (by decide)]; exact a1
  · exact PS_upd (fun j _ => by rw [ms_q (by decide), ms_q (by decide)]) a2
  · rw [ms_q (by decide), ms_j (by decide)]; exact a3
  · rw [ms_q (by decide), ms_s]; simp [Nat.add_assoc]
  · exact o_add x (fun t y ht => by rw [ms_q (by decide)]; exact a5 t y ht)
theorem sgn_rk {s : Int32} {cm : Bool} (h : ¬ sgn s cm = -1) : 1 ≤ rnk (sgn s cm) := by
  unfold sgn at h ⊢
  split
  · decide
  · split
    · decide
    · split
      · decide
      · split
        · next a b c d => rw [if_neg a, if_neg b, if_neg c, if_pos d] at h; cases cm <;> first | decide | exact absurd rfl h
        · split
          · next a b c d e => rw [if_neg a, if_neg b, if_neg c, if_neg d, if_pos e] at h; cases cm <;> first | decide | exact absurd rfl h
          · split
            · decide
            · split
              · decide
              · next a b c d e f k => rw [if_neg a, if_neg b, if_neg c, if_neg d, if_neg e, if_neg f, if_neg k] at h; exact absurd rfl h
def T_X6_takes (g : WG) (as : List Value) (M : MM) (Q : Option Value → MM → Prop) : Prop := ∃ s v w p n, as = [.ref 76, .int (cW w)] ∧ TKm M s v ∧ 6 ≤ w ∧ w < 12 ∧ M 76 18 = nI p ∧ p ≤ n ∧ n ≤ 160 ∧ M 76 10 = nI n ∧ (¬ s = nI (w - 2) → Q (some (.int 0)) M) ∧ (s = nI (w - 2) → ∀ M', Sm YN M M' → M' 76 17 = nI (skp (M 84) n p) → M' 76 18 = nI (nxE (M 84) n (skp (M 84) n p)) → (skp (M 84) n p < n → TKm M' (tkS (M 84) n (skp (M 84) n p)) (tkV (M 84) n (skp (M 84) n p))) → (n ≤ skp (M 84) n p → TKm M' 0 0) → Q (some (.int 1)) M')
set_option maxRecDepth 100000 in
set_option maxHeartbeats 1000000 in
theorem t_X6_takes {l : Launch} {g : WG} (hg : Full g) : Ct l g yX6_takes cX6_takes 2 ((Option.some FieldType.boolean)) 3 (T_X6_takes g) := by
  refine Ct.of (by decide) (fun as M Q h => ?_) (fun p e s m args below meth c as M Q h C => ?_)
  · obtain ⟨s0, v, w, p', nn, rfl, hT, hw6, hw, h18, hp, hnn, h10, g1, g2⟩ := h; exact ⟨by simp, by simp [Value.category]⟩
  · obtain ⟨s0, v, w, p', nn, rfl, hT, hw6, hw, h18, hp, hnn, h10, g1, g2⟩ := h
    refine s_of (fun lv st M0 hs => ?_) (WX6_takes_0 C (t_X6_next hg) (by decide))
    obtain ⟨rfl, rfl, rfl⟩ := hs
    unfold BX6_takes_0
    simp only [T_X6_next, i_const, i_lconst, i_iload, i_aload, i_lload, i_istore, i_astore, i_lstore, i_iinc, i_bin, i_div, i_un, i_i2l, i_l2i, i_lbin, i_lcmp, i_if, i_icmp, i_dup, i_dup_x1, i_dup2, i_pop, i_geti, i_getr, i_getd, i_puti, i_putz, i_putd, i_iald, i_bald, i_aald, i_iast, i_bast, i_alen, i_keep, i_ret, i_retz, i_reta, i_retl, i_retv, i_callv, i_callk, i_calls, i_mm, i_copy, i_under, i_undld, i_ldcs, i_sw, q_swc0, q_swc1, q_lg0, q_lg1, q_lent0, q_lent1, lset, lset2, q_lins0, q_lins1, q_ldel0, q_ldel1, q_ldel20, q_ldel21, q_lkeep0, q_lkeep1, q_memb0, q_memb1, cat2, Nat.reduceBEq, decide_true, decide_false, decide_eq_true_eq, cond_true, cond_false, Bool.and_true, Bool.and_false, Bool.true_and, Bool.false_and, f_iadd, f_isub, f_imul, f_ishl, f_ishr, f_iushr, f_iand, f_ior, f_idiv, f_irem, f_ineg, f_i2b, f_i2s, f_ladd, f_lmul, c_eq, c_ne, c_lt, c_ge, c_gt, c_le, cc_eq, cc_ne, cc_lt, cc_ge, cc_gt, cc_le, rfo, aof, csum, Value.category, List.take, List.drop, List.reverse, List.reverseAux, List.map, List.sum_cons, List.sum_nil, List.cons_append, List.nil_append, Option.toList, List.mem_cons, List.not_mem_nil, List.length_cons, List.length_nil, reduceIte, Nat.reduceEqDiff, Nat.reduceAdd, Nat.reduceLeDiff, Nat.reduceLT, a_day, Nat.zero_ne_one, Nat.one_ne_zero, false_and, and_false, true_and, and_true, or_false, false_or, or_true, true_or, not_true_eq_false, not_false_eq_true, Nat.zero_add, Nat.add_zero, Nat.le_refl, Nat.lt_irrefl, Nat.zero_lt_succ, Nat.zero_le, forall_const, List.cons.injEq, Value.int.injEq, Value.ref.injEq, Value.long.injEq, and_assoc, exists_and_left, exists_eq_left']
    try simp only [forall_eq]
    have key : ∀ w, w < 12 → 6 ≤ w → (nI (w - 2) = 3 ∨ nI (w - 2) = 4 ∨ nI (w - 2) = 5 ∨ nI (w - 2) = 6 ∨ nI (w - 2) = 7 ∨ nI (w - 2) = 8 ∨ nI (w - 2) = 9) := by decide
    refine ⟨m_76 hg, fun y => g1 fun q => y (hT.w119.mp (by rw [q]; exact key w hw hw6)), fun y => ⟨m_76 hg, fun z => ⟨(m_76 hg).1, (m_76 hg).2.1, p', h18, nn, hp, hnn, h10, g2 ((hT.word (Decidable.not_not.mp y) hw6 hw).mp z)⟩, fun z => g1 fun q => z ((hT.word (Decidable.not_not.mp y) hw6 hw).mpr q)⟩⟩
def T_X6_one (g : WG) (as : List Value) (M : MM) (Q : Option Value → MM → Prop) : Prop := ∃ c0 o W cm st s v, as = [.ref 76, .int (b2i (st = true))] ∧ MSt M c0 (o, W, cm, false, st) ∧ TKm M s v ∧ o.length + W.length < 160 ∧ (∀ y, step s v (o, W, cm, false, st) = some y → ∀ M', Sm (YMb c0) M M' → MSt M' c0 y → Q (some (.int 1)) M') ∧ (step s v (o, W, cm, false, st) = none → Q (some (.int 0)) M)
set_option maxRecDepth 100000 in
set_option maxHeartbeats 2000000 in
theorem t_X6_one {l : Launch} {g : WG} (hg : Full g) : Ct l g yX6_one cX6_one 4 ((Option.some FieldType.boolean)) 3 (T_X6_one g) := by
  refine Ct.of (by decide) (fun as M Q h => ?_) (fun p e s m args below meth c as M Q h C => ?_)
  · obtain ⟨c0, o, W, cm, st', s0, v, rfl, hM, hT, hl, h1, h2⟩ := h; exact ⟨by simp, by simp [Value.category]⟩
  · obtain ⟨c0, o, W, cm, st', s0, v, rfl, hM, hT, hl, h1, h2⟩ := h
    refine s_of (fun lv st M0 hs => ?_) (WX6_one_0 C (t_X6_named hg) (by decide) (t_X6_codes hg) (by decide) (t_X6_lays hg) (by decide) (t_X6_push hg) (by decide))
    obtain ⟨rfl, rfl, rfl⟩ := hs
    unfold BX6_one_0
    generalize hB13 : BX6_one_13 g Q (T_X6_named g) (T_X6_codes g) (T_X6_lays g) (T_X6_push g) = B13
    generalize hB17 : BX6_one_17 g Q (T_X6_named g) (T_X6_codes g) (T_X6_lays g) (T_X6_push g) = B17
    simp only [T_X6_named, T_X6_codes, T_X6_lays, T_X6_push, i_const, i_lconst, i_iload, i_aload, i_lload, i_istore, i_astore, i_lstore, i_iinc, i_bin, i_div, i_un, i_i2l, i_l2i, i_lbin, i_lcmp, i_if, i_icmp, i_dup, i_dup_x1, i_dup2, i_pop, i_geti, i_getr, i_getd, i_puti, i_putz, i_putd, i_iald, i_bald, i_aald, i_iast, i_bast, i_alen, i_keep, i_ret, i_retz, i_reta, i_retl, i_retv, i_callv, i_callk, i_calls, i_mm, i_copy, i_under, i_undld, i_ldcs, i_sw, q_swc0, q_swc1, q_lg0, q_lg1, q_lent0, q_lent1, lset, lset2, q_lins0, q_lins1, q_ldel0, q_ldel1, q_ldel20, q_ldel21, q_lkeep0, q_lkeep1, q_memb0, q_memb1, cat2, Nat.reduceBEq, decide_true, decide_false, decide_eq_true_eq, cond_true, cond_false, Bool.and_true, Bool.and_false, Bool.true_and, Bool.false_and, f_iadd, f_isub, f_imul, f_ishl, f_ishr, f_iushr, f_iand, f_ior, f_idiv, f_irem, f_ineg, f_i2b, f_i2s, f_ladd, f_lmul, c_eq, c_ne, c_lt, c_ge, c_gt, c_le, cc_eq, cc_ne, cc_lt, cc_ge, cc_gt, cc_le, rfo, aof, csum, Value.category, List.take, List.drop, List.reverse, List.reverseAux, List.map, List.sum_cons, List.sum_nil, List.cons_append, List.nil_append, Option.toList, List.mem_cons, List.not_mem_nil, List.length_cons, List.length_nil, reduceIte, Nat.reduceEqDiff, Nat.reduceAdd, Nat.reduceLeDiff, Nat.reduceLT, a_day, Nat.zero_ne_one, Nat.one_ne_zero, false_and, and_false, true_and, and_true, or_false, false_or, or_true, true_or, not_true_eq_false, not_false_eq_true, Nat.zero_add, Nat.add_zero, Nat.le_refl, Nat.lt_irrefl, Nat.zero_lt_succ, Nat.zero_le, forall_const, List.cons.injEq, Value.int.injEq, Value.ref.injEq, Value.long.injEq, and_assoc, exists_and_left, exists_eq_left']
    try simp only [forall_eq]
    obtain ⟨hW, m25, m26, m27⟩ := hM
    have hW' := hW
    obtain ⟨a1, a2, a3, a4, a5, a6, a7⟩ := hW'
    simp only at hW a1 a2 a3 a4 a5 a6 m25 m26 m27
    have go49 : ∀ cd x : Int32, (s0 = 2 ∨ s0 = 3) → cd = (if s0 = 2 then 15 + v else v) → BX6_one_49 g Q (T_X6_named g) (T_X6_codes g) (T_X6_lays g) (T_X6_push g) [(0, .ref 76), (1, .int (b2i (st' = true))), (2, .int x)] [.int cd, .ref 76] M0 := by
      intro cd x hs hcd
      have h1 := h1 _ (by simp only [step]; rw [if_pos hs])
      rw [← hcd] at h1
      obtain ⟨hC, hCs⟩ := hW.code hl cd
      unfold BX6_one_49
      simp only [T_X6_codes, i_const, i_lconst, i_iload, i_aload, i_lload, i_istore, i_astore, i_lstore, i_iinc, i_bin, i_div, i_un, i_i2l, i_l2i, i_lbin, i_lcmp, i_if, i_icmp, i_dup, i_dup_x1, i_dup2, i_pop, i_geti, i_getr, i_getd, i_puti, i_putz, i_putd, i_iald, i_bald, i_aald, i_iast, i_bast, i_alen, i_keep, i_ret, i_retz, i_reta, i_retl, i_retv, i_callv, i_callk, i_calls, i_mm, i_copy, i_under, i_undld, i_ldcs, i_sw, q_swc0, q_swc1, q_lg0, q_lg1, q_lent0, q_lent1, lset, lset2, q_lins0, q_lins1, q_ldel0, q_ldel1, q_ldel20, q_ldel21, q_lkeep0, q_lkeep1, q_memb0, q_memb1, cat2, Nat.reduceBEq, decide_true, decide_false, decide_eq_true_eq, cond_true, cond_false, Bool.and_true, Bool.and_false, Bool.true_and, Bool.false_and, f_iadd, f_isub, f_imul, f_ishl, f_ishr, f_iushr, f_iand, f_ior, f_idiv, f_irem, f_ineg, f_i2b, f_i2s, f_ladd, f_lmul, c_eq, c_ne, c_lt, c_ge, c_gt, c_le, cc_eq, cc_ne, cc_lt, cc_ge, cc_gt, cc_le, rfo, aof, csum, Value.category, List.take, List.drop, List.reverse, List.reverseAux, List.map, List.sum_cons, List.sum_nil, List.cons_append, List.nil_append, Option.toList, List.mem_cons, List.not_mem_nil, List.length_cons, List.length_nil, reduceIte, Nat.reduceEqDiff, Nat.reduceAdd, Nat.reduceLeDiff, Nat.reduceLT, a_day, Nat.zero_ne_one, Nat.one_ne_zero, false_and, and_false, true_and, and_true, or_false, false_or, or_true, true_or, not_true_eq_false, not_false_eq_true, Nat.zero_add, Nat.add_zero, Nat.le_refl, Nat.lt_irrefl, Nat.zero_lt_succ, Nat.zero_le, forall_const, List.cons.injEq, Value.int.injEq, Value.ref.injEq, Value.long.injEq, and_assoc, exists_and_left, exists_eq_left', forall_eq]
      refine ⟨(m_76 hg).1, (m_76 hg).2.1, _, a4, by omega, ?_⟩
      unfold BX6_one_52
      simp only [T_X6_lays, i_const, i_lconst, i_iload, i_aload, i_lload, i_istore, i_astore, i_lstore, i_iinc, i_bin, i_div, i_un, i_i2l, i_l2i, i_lbin, i_lcmp, i_if, i_icmp, i_dup, i_dup_x1, i_dup2, i_pop, i_geti, i_getr, i_getd, i_puti, i_putz, i_putd, i_iald, i_bald, i_aald, i_iast, i_bast, i_alen, i_keep, i_ret, i_retz, i_reta, i_retl, i_retv, i_callv, i_callk, i_calls, i_mm, i_copy, i_under, i_undld, i_ldcs, i_sw, q_swc0, q_swc1, q_lg0, q_lg1, q_lent0, q_lent1, lset, lset2, q_lins0, q_lins1, q_ldel0, q_ldel1, q_ldel20, q_ldel21, q_lkeep0, q_lkeep1, q_memb0, q_memb1, cat2, Nat.reduceBEq, decide_true, decide_false, decide_eq_true_eq, cond_true, cond_false, Bool.and_true, Bool.and_false, Bool.true_and, Bool.false_and, f_iadd, f_isub, f_imul, f_ishl, f_ishr, f_iushr, f_iand, f_ior, f_idiv, f_irem, f_ineg, f_i2b, f_i2s, f_ladd, f_lmul, c_eq, c_ne, c_lt, c_ge, c_gt, c_le, cc_eq, cc_ne, cc_lt, cc_ge, cc_gt, cc_le, rfo, aof, csum, Value.category, List.take, List.drop, List.reverse, List.reverseAux, List.map, List.sum_cons, List.sum_nil, List.cons_append, List.nil_append, Option.toList, List.mem_cons, List.not_mem_nil, List.length_cons, List.length_nil, reduceIte, Nat.reduceEqDiff, Nat.reduceAdd, Nat.reduceLeDiff, Nat.reduceLT, a_day, Nat.zero_ne_one, Nat.one_ne_zero, false_and, and_false, true_and, and_true, or_false, false_or, or_true, true_or, not_true_eq_false, not_false_eq_true, Nat.zero_add, Nat.add_zero, Nat.le_refl, Nat.lt_irrefl, Nat.zero_lt_succ, Nat.zero_le, forall_const, List.cons.injEq, Value.int.injEq, Value.ref.injEq, Value.long.injEq, and_assoc, exists_and_left, exists_eq_left', forall_eq]
      refine ⟨(m_76 hg).1, (m_76 hg).2.1, 7, rfl, by decide, by decide, c0, _, _, hC, fun M2 hs2 hM2 => ?_⟩
      unfold BX6_one_58
      simp only [i_const, i_lconst, i_iload, i_aload, i_lload, i_istore, i_astore, i_lstore, i_iinc, i_bin, i_div, i_un, i_i2l, i_l2i, i_lbin, i_lcmp, i_if, i_icmp, i_dup, i_dup_x1, i_dup2, i_pop, i_geti, i_getr, i_getd, i_puti, i_putz, i_putd, i_iald, i_bald, i_aald, i_iast, i_bast, i_alen, i_keep, i_ret, i_retz, i_reta, i_retl, i_retv, i_callv, i_callk, i_calls, i_mm, i_copy, i_under, i_undld, i_ldcs, i_sw, q_swc0, q_swc1, q_lg0, q_lg1, q_lent0, q_lent1, lset, lset2, q_lins0, q_lins1, q_ldel0, q_ldel1, q_ldel20, q_ldel21, q_lkeep0, q_lkeep1, q_memb0, q_memb1, cat2, Nat.reduceBEq, decide_true, decide_false, decide_eq_true_eq, cond_true, cond_false, Bool.and_true, Bool.and_false, Bool.true_and, Bool.false_and, f_iadd, f_isub, f_imul, f_ishl, f_ishr, f_iushr, f_iand, f_ior, f_idiv, f_irem, f_ineg, f_i2b, f_i2s, f_ladd, f_lmul, c_eq, c_ne, c_lt, c_ge, c_gt, c_le, cc_eq, cc_ne, cc_lt, cc_ge, cc_gt, cc_le, rfo, aof, csum, Value.category, List.take, List.drop, List.reverse, List.reverseAux, List.map, List.sum_cons, List.sum_nil, List.cons_append, List.nil_append, Option.toList, List.mem_cons, List.not_mem_nil, List.length_cons, List.length_nil, reduceIte, Nat.reduceEqDiff, Nat.reduceAdd, Nat.reduceLeDiff, Nat.reduceLT, a_day, Nat.zero_ne_one, Nat.one_ne_zero, false_and, and_false, true_and, and_true, or_false, false_or, or_true, true_or, not_true_eq_false, not_false_eq_true, Nat.zero_add, Nat.add_zero, Nat.le_refl, Nat.lt_irrefl, Nat.zero_lt_succ, Nat.zero_le, forall_const, List.cons.injEq, Value.int.injEq, Value.ref.injEq, Value.long.injEq, and_assoc, exists_and_left, exists_eq_left', forall_eq]
      have hs3 := hCs.tr hs2
      have y : ∀ a b, YMa c0 a b → ¬ (a = 76 ∧ b = 26) := fun a b q => by unfold YMa at q; omega
      have y5 : ∀ b, 25 ≤ b → b ≤ 27 → ¬ YMa c0 76 b := fun b q1 q2 => by unfold YMa; omega
      refine ⟨m_76 hg, h1 _ ((hs3.mono fun _ _ q => Or.inl q).set _ (Or.inr ⟨rfl, by omega⟩)) ⟨hM2.sm (Y := fun a b => a = 76 ∧ b = 26) (Sm.rf.set _ ⟨rfl, rfl⟩) y, ?_, ?_, ?_⟩⟩
      · rw [ms_j (by decide), hs3 _ _ (y5 _ (by decide) (by decide))]; exact m25
      · rw [ms_s]; rfl
      · rw [ms_j (by decide), hs3 _ _ (y5 _ (by decide) (by decide))]; exact m27
    have gopush : ∀ (x : Int32) (cm' st2 : Bool), step s0 v (o, W, cm, false, st') = some (o, x :: W, cm', false, st2) → ∀ M2, Sm (YMa c0) M0 M2 → MWp M2 c0 o (x :: W) → ∀ M3, Sm (fun a b => a = 76 ∧ 25 ≤ b ∧ b ≤ 27) M2 M3 → M3 76 25 = b2i (cm' = true) → M3 76 26 = M2 76 26 → M3 76 27 = b2i (st2 = true) → Q (some (.int 1)) M3 := by
      intro x cm' st2 he M2 hs2 hM2 M3 hs3 e25 e26 e27
      refine h1 _ he M3 ((hs2.mono fun _ _ q => Or.inl q).tr (hs3.mono fun _ _ q => Or.inr q)) ⟨hM2.sm hs3 (fun a b q => by unfold YMa at q; omega), e25, ?_, e27⟩
      rw [e26, hs2 _ _ (by unfold YMa; omega)]; exact m26
    have go116 : ∀ x : Int32, ¬ (s0 = 2 ∨ s0 = 3) → ((st' = true ∧ s0 = 9) ∨ s0 = 45 ∨ s0 = 40) → BX6_one_116 g Q (T_X6_named g) (T_X6_codes g) (T_X6_lays g) (T_X6_push g) [(0, .ref 76), (1, .int (b2i (st' = true))), (2, .int x), (3, .int (b2i (st' = true ∧ s0 = 9)))] [] M0 := by
      intro x hs hc
      unfold BX6_one_116
      simp only [i_const, i_lconst, i_iload, i_aload, i_lload, i_istore, i_astore, i_lstore, i_iinc, i_bin, i_div, i_un, i_i2l, i_l2i, i_lbin, i_lcmp, i_if, i_icmp, i_dup, i_dup_x1, i_dup2, i_pop, i_geti, i_getr, i_getd, i_puti, i_putz, i_putd, i_iald, i_bald, i_aald, i_iast, i_bast, i_alen, i_keep, i_ret, i_retz, i_reta, i_retl, i_retv, i_callv, i_callk, i_calls, i_mm, i_copy, i_under, i_undld, i_ldcs, i_sw, q_swc0, q_swc1, q_lg0, q_lg1, q_lent0, q_lent1, lset, lset2, q_lins0, q_lins1, q_ldel0, q_ldel1, q_ldel20, q_ldel21, q_lkeep0, q_lkeep1, q_memb0, q_memb1, cat2, Nat.reduceBEq, decide_true, decide_false, decide_eq_true_eq, cond_true, cond_false, Bool.and_true, Bool.and_false, Bool.true_and, Bool.false_and, f_iadd, f_isub, f_imul, f_ishl, f_ishr, f_iushr, f_iand, f_ior, f_idiv, f_irem, f_ineg, f_i2b, f_i2s, f_ladd, f_lmul, c_eq, c_ne, c_lt, c_ge, c_gt, c_le, cc_eq, cc_ne, cc_lt, cc_ge, cc_gt, cc_le, rfo, aof, csum, Value.category, List.take, List.drop, List.reverse, List.reverseAux, List.map, List.sum_cons, List.sum_nil, List.cons_append, List.nil_append, Option.toList, List.mem_cons, List.not_mem_nil, List.length_cons, List.length_nil, reduceIte, Nat.reduceEqDiff, Nat.reduceAdd, Nat.reduceLeDiff, Nat.reduceLT, a_day, Nat.zero_ne_one, Nat.one_ne_zero, false_and, and_false, true_and, and_true, or_false, false_or, or_true, true_or, not_true_eq_false, not_false_eq_true, Nat.zero_add, Nat.add_zero, Nat.le_refl, Nat.lt_irrefl, Nat.zero_lt_succ, Nat.zero_le, forall_const, List.cons.injEq, Value.int.injEq, Value.ref.injEq, Value.long.injEq, and_assoc, exists_and_left, exists_eq_left', forall_eq]
      rw [a3, show (5 : Int32) = nI 5 from rfl, nI_eq (by have := opn_le W; omega) (by decide), hT.sign (x := 40) (by simp)]
      have nst : opn W = 5 → step s0 v (o, W, cm, false, st') = none := fun q => by
        simp only [step]; rw [if_neg hs, if_pos (Or.inr q)]
      have c175 : ∀ lv : List (Nat × Value), lg lv 0 = some (.ref 76) → ∀ M2, (s0 = 45 → Q (some (.int 1)) (mset M2 76 27 0)) → (¬ s0 = 45 → Q (some (.int 1)) (mset M2 76 27 1)) → (M2 76 19 = 45 ↔ s0 = 45) → BX6_one_175 g Q (T_X6_named g) (T_X6_codes g) (T_X6_lays g) (T_X6_push g) [(0, .ref 76), (1, .int (b2i (st' = true))), (2, .int x), (3, .int (b2i (st' = true ∧ s0 = 9)))] [] M2 := by
        intro lv _ M2 g1 g2 e19
        unfold BX6_one_175
        simp only [i_const, i_lconst, i_iload, i_aload, i_lload, i_istore, i_astore, i_lstore, i_iinc, i_bin, i_div, i_un, i_i2l, i_l2i, i_lbin, i_lcmp, i_if, i_icmp, i_dup, i_dup_x1, i_dup2, i_pop, i_geti, i_getr, i_getd, i_puti, i_putz, i_putd, i_iald, i_bald, i_aald, i_iast, i_bast, i_alen, i_keep, i_ret, i_retz, i_reta, i_retl, i_retv, i_callv, i_callk, i_calls, i_mm, i_copy, i_under, i_undld, i_ldcs, i_sw, q_swc0, q_swc1, q_lg0, q_lg1, q_lent0, q_lent1, lset, lset2, q_lins0, q_lins1, q_ldel0, q_ldel1, q_ldel20, q_ldel21, q_lkeep0, q_lkeep1, q_memb0, q_memb1, cat2, Nat.reduceBEq, decide_true, decide_false, decide_eq_true_eq, cond_true, cond_false, Bool.and_true, Bool.and_false, Bool.true_and, Bool.false_and, f_iadd, f_isub, f_imul, f_ishl, f_ishr, f_iushr, f_iand, f_ior, f_idiv, f_irem, f_ineg, f_i2b, f_i2s, f_ladd, f_lmul, c_eq, c_ne, c_lt, c_ge, c_gt, c_le, cc_eq, cc_ne, cc_lt, cc_ge, cc_gt, cc_le, rfo, aof, csum, Value.category, List.take, List.drop, List.reverse, List.reverseAux, List.map, List.sum_cons, List.sum_nil, List.cons_append, List.nil_append, Option.toList, List.mem_cons, List.not_mem_nil, List.length_cons, List.length_nil, reduceIte, Nat.reduceEqDiff, Nat.reduceAdd, Nat.reduceLeDiff, Nat.reduceLT, a_day, Nat.zero_ne_one, Nat.one_ne_zero, false_and, and_false, true_and, and_true, or_false, false_or, or_true, true_or, not_true_eq_false, not_false_eq_true, Nat.zero_add, Nat.add_zero, Nat.le_refl, Nat.lt_irrefl, Nat.zero_lt_succ, Nat.zero_le, forall_const, List.cons.injEq, Value.int.injEq, Value.ref.injEq, Value.long.injEq, and_assoc, exists_and_left, exists_eq_left', forall_eq]
        exact ⟨m_76 hg, fun q => ⟨m_76 hg, g1 (e19.mp q)⟩, fun q => ⟨m_76 hg, g2 (fun w => q (e19.mpr w))⟩⟩
      have c172 : ∀ (code : Int32) (st2 : Bool), ¬ opn W = 5 → step s0 v (o, W, cm, false, st') = some (o, code :: W, cm, false, st2) → (s0 = 45 ↔ st2 = false) → BX6_one_172 g Q (T_X6_named g) (T_X6_codes g) (T_X6_lays g) (T_X6_push g) [(0, .ref 76), (1, .int (b2i (st' = true))), (2, .int x), (3, .int (b2i (st' = true ∧ s0 = 9)))] [.int code, .ref 76] M0 := by
        intro code st2 ho he h45
        unfold BX6_one_172
        simp only [T_X6_push, i_const, i_lconst, i_iload, i_aload, i_lload, i_istore, i_astore, i_lstore, i_iinc, i_bin, i_div, i_un, i_i2l, i_l2i, i_lbin, i_lcmp, i_if, i_icmp, i_dup, i_dup_x1, i_dup2, i_pop, i_geti, i_getr, i_getd, i_puti, i_putz, i_putd, i_iald, i_bald, i_aald, i_iast, i_bast, i_alen, i_keep, i_ret, i_retz, i_reta, i_retl, i_retv, i_callv, i_callk, i_calls, i_mm, i_copy, i_under, i_undld, i_ldcs, i_sw, q_swc0, q_swc1, q_lg0, q_lg1, q_lent0, q_lent1, lset, lset2, q_lins0, q_lins1, q_ldel0, q_ldel1, q_ldel20, q_ldel21, q_lkeep0, q_lkeep1, q_memb0, q_memb1, cat2, Nat.reduceBEq, decide_true, decide_false, decide_eq_true_eq, cond_true, cond_false, Bool.and_true, Bool.and_false, Bool.true_and, Bool.false_and, f_iadd, f_isub, f_imul, f_ishl, f_ishr, f_iushr, f_iand, f_ior, f_idiv, f_irem, f_ineg, f_i2b, f_i2s, f_ladd, f_lmul, c_eq, c_ne, c_lt, c_ge, c_gt, c_le, cc_eq, cc_ne, cc_lt, cc_ge, cc_gt, cc_le, rfo, aof, csum, Value.category, List.take, List.drop, List.reverse, List.reverseAux, List.map, List.sum_cons, List.sum_nil, List.cons_append, List.nil_append, Option.toList, List.mem_cons, List.not_mem_nil, List.length_cons, List.length_nil, reduceIte, Nat.reduceEqDiff, Nat.reduceAdd, Nat.reduceLeDiff, Nat.reduceLT, a_day, Nat.zero_ne_one, Nat.one_ne_zero, false_and, and_false, true_and, and_true, or_false, false_or, or_true, true_or, not_true_eq_false, not_false_eq_true, Nat.zero_add, Nat.add_zero, Nat.le_refl, Nat.lt_irrefl, Nat.zero_lt_succ, Nat.zero_le, forall_const, List.cons.injEq, Value.int.injEq, Value.ref.injEq, Value.long.injEq, and_assoc, exists_and_left, exists_eq_left', forall_eq]
        refine ⟨(m_76 hg).1, (m_76 hg).2.1, c0, o, W, hW, hl, fun M2 hs2 hM2 => c175 [(0, .ref 76)] (by rw [q_lg1]; rfl) M2 (fun q => ?_) (fun q => ?_) ?_⟩
        · refine gopush code cm st2 he M2 hs2 hM2 _ (Sm.rf.set _ ⟨rfl, by decide, by decide⟩) ?_ (by rw [ms_j (by decide)]) ?_
          · rw [ms_j (by decide), hs2 _ _ (by unfold YMa; omega)]; exact m25
          · rw [ms_s, h45.mp q]; rfl
        · refine gopush code cm st2 he M2 hs2 hM2 _ (Sm.rf.set _ ⟨rfl, by decide, by decide⟩) ?_ (by rw [ms_j (by decide)]) ?_
          · rw [ms_j (by decide), hs2 _ _ (by unfold YMa; omega)]; exact m25
          · have : st2 = true := by
              cases st2 with
              | false => exact absurd (h45.mpr rfl) q
              | true => rfl
            rw [ms_s, this]; rfl
        · rw [hs2 _ _ (by unfold YMa; omega)]; exact hT.sign (x := 45) (by simp)
      have c149 : ∀ (code : Int32), code = (if cm then -2 else -1) → ¬ opn W = 5 → s0 = 40 → BX6_one_149 g Q (T_X6_named g) (T_X6_codes g) (T_X6_lays g) (T_X6_push g) [(0, .ref 76), (1, .int (b2i (st' = true))), (2, .int x), (3, .int (b2i (st' = true ∧ s0 = 9)))] [.int code, .ref 76] M0 := by
        intro code hcode ho h40
        have he : step s0 v (o, W, cm, false, st') = some (o, code :: W, false, false, true) := by
          simp only [step]; rw [if_neg hs, if_neg (fun q => q.elim (fun q => q hc) ho), if_pos h40, hcode]
        unfold BX6_one_149
        simp only [T_X6_push, i_const, i_lconst, i_iload, i_aload, i_lload, i_istore, i_astore, i_lstore, i_iinc, i_bin, i_div, i_un, i_i2l, i_l2i, i_lbin, i_lcmp, i_if, i_icmp, i_dup, i_dup_x1, i_dup2, i_pop, i_geti, i_getr, i_getd, i_puti, i_putz, i_putd, i_iald, i_bald, i_aald, i_iast, i_bast, i_alen, i_keep, i_ret, i_retz, i_reta, i_retl, i_retv, i_callv, i_callk, i_calls, i_mm, i_copy, i_under, i_undld, i_ldcs, i_sw, q_swc0, q_swc1, q_lg0, q_lg1, q_lent0, q_lent1, lset, lset2, q_lins0, q_lins1, q_ldel0, q_ldel1, q_ldel20, q_ldel21, q_lkeep0, q_lkeep1, q_memb0, q_memb1, cat2, Nat.reduceBEq, decide_true, decide_false, decide_eq_true_eq, cond_true, cond_false, Bool.and_true, Bool.and_false, Bool.true_and, Bool.false_and, f_iadd, f_isub, f_imul, f_ishl, f_ishr, f_iushr, f_iand, f_ior, f_idiv, f_irem, f_ineg, f_i2b, f_i2s, f_ladd, f_lmul, c_eq, c_ne, c_lt, c_ge, c_gt, c_le, cc_eq, cc_ne, cc_lt, cc_ge, cc_gt, cc_le, rfo, aof, csum, Value.category, List.take, List.drop, List.reverse, List.reverseAux, List.map, List.sum_cons, List.sum_nil, List.cons_append, List.nil_append, Option.toList, List.mem_cons, List.not_mem_nil, List.length_cons, List.length_nil, reduceIte, Nat.reduceEqDiff, Nat.reduceAdd, Nat.reduceLeDiff, Nat.reduceLT, a_day, Nat.zero_ne_one, Nat.one_ne_zero, false_and, and_false, true_and, and_true, or_false, false_or, or_true, true_or, not_true_eq_false, not_false_eq_true, Nat.zero_add, Nat.add_zero, Nat.le_refl, Nat.lt_irrefl, Nat.zero_lt_succ, Nat.zero_le, forall_const, List.cons.injEq, Value.int.injEq, Value.ref.injEq, Value.long.injEq, and_assoc, exists_and_left, exists_eq_left', forall_eq]
        refine ⟨(m_76 hg).1, (m_76 hg).2.1, c0, o, W, hW, hl, fun M2 hs2 hM2 => ?_⟩
        unfold BX6_one_152
        simp only [i_const, i_lconst, i_iload, i_aload, i_lload, i_istore, i_astore, i_lstore, i_iinc, i_bin, i_div, i_un, i_i2l, i_l2i, i_lbin, i_lcmp, i_if, i_icmp, i_dup, i_dup_x1, i_dup2, i_pop, i_geti, i_getr, i_getd, i_puti, i_putz, i_putd, i_iald, i_bald, i_aald, i_iast, i_bast, i_alen, i_keep, i_ret, i_retz, i_reta, i_retl, i_retv, i_callv, i_callk, i_calls, i_mm, i_copy, i_under, i_undld, i_ldcs, i_sw, q_swc0, q_swc1, q_lg0, q_lg1, q_lent0, q_lent1, lset, lset2, q_lins0, q_lins1, q_ldel0, q_ldel1, q_ldel20, q_ldel21, q_lkeep0, q_lkeep1, q_memb0, q_memb1, cat2, Nat.reduceBEq, decide_true, decide_false, decide_eq_true_eq, cond_true, cond_false, Bool.and_true, Bool.and_false, Bool.true_and, Bool.false_and, f_iadd, f_isub, f_imul, f_ishl, f_ishr, f_iushr, f_iand, f_ior, f_idiv, f_irem, f_ineg, f_i2b, f_i2s, f_ladd, f_lmul, c_eq, c_ne, c_lt, c_ge, c_gt, c_le, cc_eq, cc_ne, cc_lt, cc_ge, cc_gt, cc_le, rfo, aof, csum, Value.category, List.take, List.drop, List.reverse, List.reverseAux, List.map, List.sum_cons, List.sum_nil, List.cons_append, List.nil_append, Option.toList, List.mem_cons, List.not_mem_nil, List.length_cons, List.length_nil, reduceIte, Nat.reduceEqDiff, Nat.reduceAdd, Nat.reduceLeDiff, Nat.reduceLT, a_day, Nat.zero_ne_one, Nat.one_ne_zero, false_and, and_false, true_and, and_true, or_false, false_or, or_true, true_or, not_true_eq_false, not_false_eq_true, Nat.zero_add, Nat.add_zero, Nat.le_refl, Nat.lt_irrefl, Nat.zero_lt_succ, Nat.zero_le, forall_const, List.cons.injEq, Value.int.injEq, Value.ref.injEq, Value.long.injEq, and_assoc, exists_and_left, exists_eq_left', forall_eq]
        refine ⟨m_76 hg, c175 [(0, .ref 76)] (by rw [q_lg1]; rfl) _ (fun q => ?_) (fun q => ?_) ?_⟩
        · rw [h40] at q; exact absurd q (by decide)
        · refine gopush code false true he M2 hs2 hM2 _ ((Sm.rf.set _ ⟨rfl, by decide, by decide⟩).set _ ⟨rfl, by decide, by decide⟩) ?_ (by rw [ms_j (by decide), ms_j (by decide)]) ?_
          · rw [ms_j (by decide), ms_s]; rfl
          · rw [ms_s]; rfl
        · rw [ms_j (by decide), hs2 _ _ (by unfold YMa; omega)]; exact hT.sign (x := 45) (by simp)
      refine ⟨m_76 hg, fun y => ⟨m_76 hg, fun u => ⟨fun z => ?_, fun z => ?_⟩, fun u => ⟨m_76 hg, fun z => ?_, fun z => ?_⟩⟩, fun y => h2 (nst (Decidable.not_not.mp y))⟩
      · have n9 := b2n z
        have h45 : s0 = 45 := by
          rcases hc with q | q | q
          · exact absurd q n9
          · exact q
          · exact absurd q u
        refine c172 14 false y ?_ (by simp [h45])
        simp only [step]
        rw [if_neg hs, if_neg (fun q => q.elim (fun q => q hc) y), if_neg u, if_neg (by rw [h45]; decide)]
      · have h9 := b2t z
        refine c172 13 true y ?_ (by simp [h9.2])
        simp only [step]
        rw [if_neg hs, if_neg (fun q => q.elim (fun q => q hc) y), if_neg u, if_pos h9.2]
      · exact c149 (-1) (by rw [m25] at z; rw [if_neg (b2n z)]) y (Decidable.not_not.mp u)
      · exact c149 (-2) (by rw [m25] at z; rw [if_pos (b2t z)]) y (Decidable.not_not.mp u)
    have go92 : ∀ x y : Int32, ¬ (s0 = 2 ∨ s0 = 3) → y = b2i (st' = true ∧ s0 = 9) → BX6_one_93 g Q (T_X6_named g) (T_X6_codes g) (T_X6_lays g) (T_X6_push g) [(0, .ref 76), (1, .int (b2i (st' = true))), (2, .int x)] [.int y] M0 := by
      intro x y hs hy
      subst hy
      unfold BX6_one_93
      simp only [i_const, i_lconst, i_iload, i_aload, i_lload, i_istore, i_astore, i_lstore, i_iinc, i_bin, i_div, i_un, i_i2l, i_l2i, i_lbin, i_lcmp, i_if, i_icmp, i_dup, i_dup_x1, i_dup2, i_pop, i_geti, i_getr, i_getd, i_puti, i_putz, i_putd, i_iald, i_bald, i_aald, i_iast, i_bast, i_alen, i_keep, i_ret, i_retz, i_reta, i_retl, i_retv, i_callv, i_callk, i_calls, i_mm, i_copy, i_under, i_undld, i_ldcs, i_sw, q_swc0, q_swc1, q_lg0, q_lg1, q_lent0, q_lent1, lset, lset2, q_lins0, q_lins1, q_ldel0, q_ldel1, q_ldel20, q_ldel21, q_lkeep0, q_lkeep1, q_memb0, q_memb1, cat2, Nat.reduceBEq, decide_true, decide_false, decide_eq_true_eq, cond_true, cond_false, Bool.and_true, Bool.and_false, Bool.true_and, Bool.false_and, f_iadd, f_isub, f_imul, f_ishl, f_ishr, f_iushr, f_iand, f_ior, f_idiv, f_irem, f_ineg, f_i2b, f_i2s, f_ladd, f_lmul, c_eq, c_ne, c_lt, c_ge, c_gt, c_le, cc_eq, cc_ne, cc_lt, cc_ge, cc_gt, cc_le, rfo, aof, csum, Value.category, List.take, List.drop, List.reverse, List.reverseAux, List.map, List.sum_cons, List.sum_nil, List.cons_append, List.nil_append, Option.toList, List.mem_cons, List.not_mem_nil, List.length_cons, List.length_nil, reduceIte, Nat.reduceEqDiff, Nat.reduceAdd, Nat.reduceLeDiff, Nat.reduceLT, a_day, Nat.zero_ne_one, Nat.one_ne_zero, false_and, and_false, true_and, and_true, or_false, false_or, or_true, true_or, not_true_eq_false, not_false_eq_true, Nat.zero_add, Nat.add_zero, Nat.le_refl, Nat.lt_irrefl, Nat.zero_lt_succ, Nat.zero_le, forall_const, List.cons.injEq, Value.int.injEq, Value.ref.injEq, Value.long.injEq, and_assoc, exists_and_left, exists_eq_left', forall_eq]
      rw [hT.sign (x := 45) (by simp), hT.sign (x := 40) (by simp)]
      have no : ¬ ((st' = true ∧ s0 = 9) ∨ s0 = 45 ∨ s0 = 40) → step s0 v (o, W, cm, false, st') = none := fun q => by
        simp only [step]; rw [if_neg hs, if_pos (Or.inl q)]
      refine ⟨fun z => go116 x hs (Or.inl (b2t z)), fun z => ⟨m_76 hg, fun y => go116 x hs (Or.inr (Or.inl y)), fun y => ⟨m_76 hg, fun u => h2 (no fun q => ?_), fun u => go116 x hs (Or.inr (Or.inr (Decidable.not_not.mp u)))⟩⟩⟩
      rcases q with q | q | q
      · exact b2n (Decidable.not_not.mp z) q
      · exact y q
      · exact u q
    have go17 : ∀ x : Int32, (s0 = 3 ∧ x = v ∧ ¬ v = -1) ∨ (¬ s0 = 3 ∧ x = -1) → BX6_one_17 g Q (T_X6_named g) (T_X6_codes g) (T_X6_lays g) (T_X6_push g) [(0, .ref 76), (1, .int (b2i (st' = true)))] [.int x] M0 := by
      intro x hx
      unfold BX6_one_17
      simp only [i_const, i_lconst, i_iload, i_aload, i_lload, i_istore, i_astore, i_lstore, i_iinc, i_bin, i_div, i_un, i_i2l, i_l2i, i_lbin, i_lcmp, i_if, i_icmp, i_dup, i_dup_x1, i_dup2, i_pop, i_geti, i_getr, i_getd, i_puti, i_putz, i_putd, i_iald, i_bald, i_aald, i_iast, i_bast, i_alen, i_keep, i_ret, i_retz, i_reta, i_retl, i_retv, i_callv, i_callk, i_calls, i_mm, i_copy, i_under, i_undld, i_ldcs, i_sw, q_swc0, q_swc1, q_lg0, q_lg1, q_lent0, q_lent1, lset, lset2, q_lins0, q_lins1, q_ldel0, q_ldel1, q_ldel20, q_ldel21, q_lkeep0, q_lkeep1, q_memb0, q_memb1, cat2, Nat.reduceBEq, decide_true, decide_false, decide_eq_true_eq, cond_true, cond_false, Bool.and_true, Bool.and_false, Bool.true_and, Bool.false_and, f_iadd, f_isub, f_imul, f_ishl, f_ishr, f_iushr, f_iand, f_ior, f_idiv, f_irem, f_ineg, f_i2b, f_i2s, f_ladd, f_lmul, c_eq, c_ne, c_lt, c_ge, c_gt, c_le, cc_eq, cc_ne, cc_lt, cc_ge, cc_gt, cc_le, rfo, aof, csum, Value.category, List.take, List.drop, List.reverse, List.reverseAux, List.map, List.sum_cons, List.sum_nil, List.cons_append, List.nil_append, Option.toList, List.mem_cons, List.not_mem_nil, List.length_cons, List.length_nil, reduceIte, Nat.reduceEqDiff, Nat.reduceAdd, Nat.reduceLeDiff, Nat.reduceLT, a_day, Nat.zero_ne_one, Nat.one_ne_zero, false_and, and_false, true_and, and_true, or_false, false_or, or_true, true_or, not_true_eq_false, not_false_eq_true, Nat.zero_add, Nat.add_zero, Nat.le_refl, Nat.lt_irrefl, Nat.zero_lt_succ, Nat.zero_le, forall_const, List.cons.injEq, Value.int.injEq, Value.ref.injEq, Value.long.injEq, and_assoc, exists_and_left, exists_eq_left', forall_eq]
      have c32 : (s0 = 2 ∨ s0 = 3) → BX6_one_32 g Q (T_X6_named g) (T_X6_codes g) (T_X6_lays g) (T_X6_push g) [(0, .ref 76), (1, .int (b2i (st' = true))), (2, .int x)] [] M0 := by
        intro hs
        unfold BX6_one_32
        simp only [i_const, i_lconst, i_iload, i_aload, i_lload, i_istore, i_astore, i_lstore, i_iinc, i_bin, i_div, i_un, i_i2l, i_l2i, i_lbin, i_lcmp, i_if, i_icmp, i_dup, i_dup_x1, i_dup2, i_pop, i_geti, i_getr, i_getd, i_puti, i_putz, i_putd, i_iald, i_bald, i_aald, i_iast, i_bast, i_alen, i_keep, i_ret, i_retz, i_reta, i_retl, i_retv, i_callv, i_callk, i_calls, i_mm, i_copy, i_under, i_undld, i_ldcs, i_sw, q_swc0, q_swc1, q_lg0, q_lg1, q_lent0, q_lent1, lset, lset2, q_lins0, q_lins1, q_ldel0, q_ldel1, q_ldel20, q_ldel21, q_lkeep0, q_lkeep1, q_memb0, q_memb1, cat2, Nat.reduceBEq, decide_true, decide_false, decide_eq_true_eq, cond_true, cond_false, Bool.and_true, Bool.and_false, Bool.true_and, Bool.false_and, f_iadd, f_isub, f_imul, f_ishl, f_ishr, f_iushr, f_iand, f_ior, f_idiv, f_irem, f_ineg, f_i2b, f_i2s, f_ladd, f_lmul, c_eq, c_ne, c_lt, c_ge, c_gt, c_le, cc_eq, cc_ne, cc_lt, cc_ge, cc_gt, cc_le, rfo, aof, csum, Value.category, List.take, List.drop, List.reverse, List.reverseAux, List.map, List.sum_cons, List.sum_nil, List.cons_append, List.nil_append, Option.toList, List.mem_cons, List.not_mem_nil, List.length_cons, List.length_nil, reduceIte, Nat.reduceEqDiff, Nat.reduceAdd, Nat.reduceLeDiff, Nat.reduceLT, a_day, Nat.zero_ne_one, Nat.one_ne_zero, false_and, and_false, true_and, and_true, or_false, false_or, or_true, true_or, not_true_eq_false, not_false_eq_true, Nat.zero_add, Nat.add_zero, Nat.le_refl, Nat.lt_irrefl, Nat.zero_lt_succ, Nat.zero_le, forall_const, List.cons.injEq, Value.int.injEq, Value.ref.injEq, Value.long.injEq, and_assoc, exists_and_left, exists_eq_left', forall_eq]
        refine ⟨fun z => go49 x x hs ?_, fun z => ⟨m_76 hg, ?_⟩⟩
        · rcases hx with ⟨h3, hxv, -⟩ | ⟨-, hx⟩
          · rw [if_neg (by rw [h3]; decide)]; exact hxv
          · exact absurd hx z
        · have h2' : s0 = 2 := by
            rcases hs with q | q
            · exact q
            · rcases hx with ⟨-, hxv, hv⟩ | ⟨h3, -⟩
              · exact absurd (hxv.symm.trans (Decidable.not_not.mp z)) hv
              · exact absurd q h3
          rw [hT.num.2 h2']
          exact go49 _ x hs (by rw [if_pos h2'])
      have c92 : ¬ (s0 = 2 ∨ s0 = 3) → ¬ (st' = true ∧ s0 = 9) → BX6_one_92 g Q (T_X6_named g) (T_X6_codes g) (T_X6_lays g) (T_X6_push g) [(0, .ref 76), (1, .int (b2i (st' = true))), (2, .int x)] [] M0 := by
        intro hs h9
        unfold BX6_one_92
        simp only [i_const, i_lconst, i_iload, i_aload, i_lload, i_istore, i_astore, i_lstore, i_iinc, i_bin, i_div, i_un, i_i2l, i_l2i, i_lbin, i_lcmp, i_if, i_icmp, i_dup, i_dup_x1, i_dup2, i_pop, i_geti, i_getr, i_getd, i_puti, i_putz, i_putd, i_iald, i_bald, i_aald, i_iast, i_bast, i_alen, i_keep, i_ret, i_retz, i_reta, i_retl, i_retv, i_callv, i_callk, i_calls, i_mm, i_copy, i_under, i_undld, i_ldcs, i_sw, q_swc0, q_swc1, q_lg0, q_lg1, q_lent0, q_lent1, lset, lset2, q_lins0, q_lins1, q_ldel0, q_ldel1, q_ldel20, q_ldel21, q_lkeep0, q_lkeep1, q_memb0, q_memb1, cat2, Nat.reduceBEq, decide_true, decide_false, decide_eq_true_eq, cond_true, cond_false, Bool.and_true, Bool.and_false, Bool.true_and, Bool.false_and, f_iadd, f_isub, f_imul, f_ishl, f_ishr, f_iushr, f_iand, f_ior, f_idiv, f_irem, f_ineg, f_i2b, f_i2s, f_ladd, f_lmul, c_eq, c_ne, c_lt, c_ge, c_gt, c_le, cc_eq, cc_ne, cc_lt, cc_ge, cc_gt, cc_le, rfo, aof, csum, Value.category, List.take, List.drop, List.reverse, List.reverseAux, List.map, List.sum_cons, List.sum_nil, List.cons_append, List.nil_append, Option.toList, List.mem_cons, List.not_mem_nil, List.length_cons, List.length_nil, reduceIte, Nat.reduceEqDiff, Nat.reduceAdd, Nat.reduceLeDiff, Nat.reduceLT, a_day, Nat.zero_ne_one, Nat.one_ne_zero, false_and, and_false, true_and, and_true, or_false, false_or, or_true, true_or, not_true_eq_false, not_false_eq_true, Nat.zero_add, Nat.add_zero, Nat.le_refl, Nat.lt_irrefl, Nat.zero_lt_succ, Nat.zero_le, forall_const, List.cons.injEq, Value.int.injEq, Value.ref.injEq, Value.long.injEq, and_assoc, exists_and_left, exists_eq_left', forall_eq]
        exact go92 x 0 hs (b2i_f h9).symm
      rw [hT.num.1]
      refine ⟨m_76 hg, fun y => c32 (Or.inl y), fun y => ⟨fun z => ?_, fun z => c32 (Or.inr ?_)⟩⟩
      · have n3 : ¬ s0 = 3 := by
          rcases hx with ⟨h3, hxv, hv⟩ | ⟨h3, -⟩
          · exact absurd (hxv.symm.trans z) hv
          · exact h3
        have hs : ¬ (s0 = 2 ∨ s0 = 3) := fun q => q.elim y n3
        refine ⟨fun u => c92 hs (fun q => b2n u q.1), fun u => ⟨m_76 hg, fun w => c92 hs (fun q => w (hT.not.mpr q.2).1), fun w => ⟨m_76 hg, fun t => c92 hs (fun q => t (hT.not.mpr q.2).2), fun t => go92 x 1 hs (b2i_t ⟨b2t u, hT.not.mp ⟨Decidable.not_not.mp w, Decidable.not_not.mp t⟩⟩).symm⟩⟩⟩
      · rcases hx with ⟨h3, -⟩ | ⟨-, hx⟩
        · exact h3
        · exact absurd hx z
    refine ⟨m_76 hg, fun y => ?_, fun y => ?_⟩
    · subst hB17; exact go17 (-1) (Or.inr ⟨fun q => y (hT.w119.mp (Or.inl q)), rfl⟩)
    · have y := Decidable.not_not.mp y
      refine ⟨(m_76 hg).1, (m_76 hg).2.1, fun w hw e => ?_, fun hn => ?_⟩
      · obtain ⟨e3, ev⟩ := (hT.name y).1 w hw e
        subst hB13
        unfold BX6_one_13
        exact go17 _ (Or.inl ⟨e3, ev.symm, by rw [ev]; exact (show ∀ w, w < 6 → ¬ nI w = -1 by decide) w hw⟩)
      · subst hB13
        unfold BX6_one_13
        exact go17 _ (Or.inr ⟨(hT.name y).2 hn, rfl⟩)
def T_X6_goesOn (g : WG) (as : List Value) (M : MM) (Q : Option Value → MM → Prop) : Prop := ∃ c0 x s v, as = [.ref 76] ∧ MSt M c0 x ∧ TKm M s v ∧ x.1.length + x.2.1.length < 160 ∧ (∀ y, step s v x = some y → ∀ M', Sm (YMb c0) M M' → MSt M' c0 y → Q (some (.int 1)) M') ∧ (step s v x = none → ∀ M', Sm (YMb c0) M M' → Q (some (.int 0)) M')
set_option maxRecDepth 100000 in
set_option maxHeartbeats 2000000 in
theorem t_X6_goesOn {l : Launch} {g : WG} (hg : Full g) : Ct l g yX6_goesOn cX6_goesOn 2 ((Option.some FieldType.boolean)) 4 (T_X6_goesOn g) := by
  refine Ct.of (by decide) (fun as M Q h => ?_) (fun p e s m args below meth c as M Q h C => ?_)
  · obtain ⟨c0, x, s0, v, rfl, hM, hT, hl, h1, h2⟩ := h; exact ⟨by simp, by simp [Value.category]⟩
  · obtain ⟨c0, x, s0, v, rfl, hM, hT, hl, h1, h2⟩ := h
    refine s_of (fun lv st M0 hs => ?_) (WX6_goesOn_0 C (t_X6_signed hg) (by decide) (t_X6_closes hg) (by decide) (t_X6_one hg) (by decide) (t_X6_rank hg) (by decide) (t_X6_lays hg) (by decide) (t_X6_push hg) (by decide))
    obtain ⟨rfl, rfl, rfl⟩ := hs
    unfold BX6_goesOn_0
    generalize hB34 : BX6_goesOn_34 g Q (T_X6_signed g) (T_X6_closes g) (T_X6_one g) (T_X6_rank g) (T_X6_lays g) (T_X6_push g) = B34
    simp only [T_X6_signed, T_X6_closes, T_X6_one, T_X6_rank, T_X6_lays, T_X6_push, i_const, i_lconst, i_iload, i_aload, i_lload, i_istore, i_astore, i_lstore, i_iinc, i_bin, i_div, i_un, i_i2l, i_l2i, i_lbin, i_lcmp, i_if, i_icmp, i_dup, i_dup_x1, i_dup2, i_pop, i_geti, i_getr, i_getd, i_puti, i_putz, i_putd, i_iald, i_bald, i_aald, i_iast, i_bast, i_alen, i_keep, i_ret, i_retz, i_reta, i_retl, i_retv, i_callv, i_callk, i_calls, i_mm, i_copy, i_under, i_undld, i_ldcs, i_sw, q_swc0, q_swc1, q_lg0, q_lg1, q_lent0, q_lent1, lset, lset2, q_lins0, q_lins1, q_ldel0, q_ldel1, q_ldel20, q_ldel21, q_lkeep0, q_lkeep1, q_memb0, q_memb1, cat2, Nat.reduceBEq, decide_true, decide_false, decide_eq_true_eq, cond_true, cond_false, Bool.and_true, Bool.and_false, Bool.true_and, Bool.false_and, f_iadd, f_isub, f_imul, f_ishl, f_ishr, f_iushr, f_iand, f_ior, f_idiv, f_irem, f_ineg, f_i2b, f_i2s, f_ladd, f_lmul, c_eq, c_ne, c_lt, c_ge, c_gt, c_le, cc_eq, cc_ne, cc_lt, cc_ge, cc_gt, cc_le, rfo, aof, csum, Value.category, List.take, List.drop, List.reverse, List.reverseAux, List.map, List.sum_cons, List.sum_nil, List.cons_append, List.nil_append, Option.toList, List.mem_cons, List.not_mem_nil, List.length_cons, List.length_nil, reduceIte, Nat.reduceEqDiff, Nat.reduceAdd, Nat.reduceLeDiff, Nat.reduceLT, a_day, Nat.zero_ne_one, Nat.one_ne_zero, false_and, and_false, true_and, and_true, or_false, false_or, or_true, true_or, not_true_eq_false, not_false_eq_true, Nat.zero_add, Nat.add_zero, Nat.le_refl, Nat.lt_irrefl, Nat.zero_lt_succ, Nat.zero_le, forall_const, List.cons.injEq, Value.int.injEq, Value.ref.injEq, Value.long.injEq, and_assoc, exists_and_left, exists_eq_left']
    try simp only [forall_eq]
    obtain ⟨o, W, cm, bh, st'⟩ := x
    have hM0 := hM
    obtain ⟨hW, m25, m26, m27⟩ := hM
    simp only at hW m25 m26 m27 hl
    rw [m26, hT.sign (x := 41) (by simp)]
    refine ⟨m_76 hg, fun y => ?_, fun y => ?_⟩
    · have y := b2t y
      subst y
      refine ⟨m_76 hg, fun u => ⟨(m_76 hg).1, (m_76 hg).2.1, s0, v, hT, cm, m25, ?_⟩, fun u => ⟨(m_76 hg).1, (m_76 hg).2.1, c0, o, W, hW, fun hn M' hs => ?_, fun b W1 hb M' hs hM' e25 e26 e27 => ?_⟩⟩
      · subst hB34
        unfold BX6_goesOn_34
        generalize hB47 : BX6_goesOn_47 g Q (T_X6_signed g) (T_X6_closes g) (T_X6_one g) (T_X6_rank g) (T_X6_lays g) (T_X6_push g) = B47
        simp only [T_X6_signed, T_X6_closes, T_X6_one, T_X6_rank, T_X6_lays, T_X6_push, i_const, i_lconst, i_iload, i_aload, i_lload, i_istore, i_astore, i_lstore, i_iinc, i_bin, i_div, i_un, i_i2l, i_l2i, i_lbin, i_lcmp, i_if, i_icmp, i_dup, i_dup_x1, i_dup2, i_pop, i_geti, i_getr, i_getd, i_puti, i_putz, i_putd, i_iald, i_bald, i_aald, i_iast, i_bast, i_alen, i_keep, i_ret, i_retz, i_reta, i_retl, i_retv, i_callv, i_callk, i_calls, i_mm, i_copy, i_under, i_undld, i_ldcs, i_sw, q_swc0, q_swc1, q_lg0, q_lg1, q_lent0, q_lent1, lset, lset2, q_lins0, q_lins1, q_ldel0, q_ldel1, q_ldel20, q_ldel21, q_lkeep0, q_lkeep1, q_memb0, q_memb1, cat2, Nat.reduceBEq, decide_true, decide_false, decide_eq_true_eq, cond_true, cond_false, Bool.and_true, Bool.and_false, Bool.true_and, Bool.false_and, f_iadd, f_isub, f_imul, f_ishl, f_ishr, f_iushr, f_iand, f_ior, f_idiv, f_irem, f_ineg, f_i2b, f_i2s, f_ladd, f_lmul, c_eq, c_ne, c_lt, c_ge, c_gt, c_le, cc_eq, cc_ne, cc_lt, cc_ge, cc_gt, cc_le, rfo, aof, csum, Value.category, List.take, List.drop, List.reverse, List.reverseAux, List.map, List.sum_cons, List.sum_nil, List.cons_append, List.nil_append, Option.toList, List.mem_cons, List.not_mem_nil, List.length_cons, List.length_nil, reduceIte, Nat.reduceEqDiff, Nat.reduceAdd, Nat.reduceLeDiff, Nat.reduceLT, a_day, Nat.zero_ne_one, Nat.one_ne_zero, false_and, and_false, true_and, and_true, or_false, false_or, or_true, true_or, not_true_eq_false, not_false_eq_true, Nat.zero_add, Nat.add_zero, Nat.le_refl, Nat.lt_irrefl, Nat.zero_lt_succ, Nat.zero_le, forall_const, List.cons.injEq, Value.int.injEq, Value.ref.injEq, Value.long.injEq, and_assoc, exists_and_left, exists_eq_left']
        try simp only [forall_eq]
        refine ⟨fun z => ?_, fun z => h2 ?_ M0 Sm.rf⟩
        · have he : step s0 v (o, W, cm, true, st') = some ((lay (rnk (sgn s0 cm)) o W).1, sgn s0 cm :: (lay (rnk (sgn s0 cm)) o W).2, (if rnk (sgn s0 cm) < 3 then false else if rnk (sgn s0 cm) = 4 then true else cm), false, decide (rnk (sgn s0 cm) < 3)) := by
            simp only [step]; rw [if_neg u, if_neg z]
          have hr1 := sgn_rk z
          have hr7 := rnk_7 (sgn s0 cm)
          have h1 := h1 _ he
          obtain ⟨sg, hsg⟩ : ∃ sg, sgn s0 cm = sg := ⟨_, rfl⟩
          rw [hsg] at h1 hr1 hr7 ⊢
          subst hB47
          unfold BX6_goesOn_47
          generalize hB50 : BX6_goesOn_50 g Q (T_X6_signed g) (T_X6_closes g) (T_X6_one g) (T_X6_rank g) (T_X6_lays g) (T_X6_push g) = B50
          simp only [T_X6_signed, T_X6_closes, T_X6_one, T_X6_rank, T_X6_lays, T_X6_push, i_const, i_lconst, i_iload, i_aload, i_lload, i_istore, i_astore, i_lstore, i_iinc, i_bin, i_div, i_un, i_i2l, i_l2i, i_lbin, i_lcmp, i_if, i_icmp, i_dup, i_dup_x1, i_dup2, i_pop, i_geti, i_getr, i_getd, i_puti, i_putz, i_putd, i_iald, i_bald, i_aald, i_iast, i_bast, i_alen, i_keep, i_ret, i_retz, i_reta, i_retl, i_retv, i_callv, i_callk, i_calls, i_mm, i_copy, i_under, i_undld, i_ldcs, i_sw, q_swc0, q_swc1, q_lg0, q_lg1, q_lent0, q_lent1, lset, lset2, q_lins0, q_lins1, q_ldel0, q_ldel1, q_ldel20, q_ldel21, q_lkeep0, q_lkeep1, q_memb0, q_memb1, cat2, Nat.reduceBEq, decide_true, decide_false, decide_eq_true_eq, cond_true, cond_false, Bool.and_true, Bool.and_false, Bool.true_and, Bool.false_and, f_iadd, f_isub, f_imul, f_ishl, f_ishr, f_iushr, f_iand, f_ior, f_idiv, f_irem, f_ineg, f_i2b, f_i2s, f_ladd, f_lmul, c_eq, c_ne, c_lt, c_ge, c_gt, c_le, cc_eq, cc_ne, cc_lt, cc_ge, cc_gt, cc_le, rfo, aof, csum, Value.category, List.take, List.drop, List.reverse, List.reverseAux, List.map, List.sum_cons, List.sum_nil, List.cons_append, List.nil_append, Option.toList, List.mem_cons, List.not_mem_nil, List.length_cons, List.length_nil, reduceIte, Nat.reduceEqDiff, Nat.reduceAdd, Nat.reduceLeDiff, Nat.reduceLT, a_day, Nat.zero_ne_one, Nat.one_ne_zero, false_and, and_false, true_and, and_true, or_false, false_or, or_true, true_or, not_true_eq_false, not_false_eq_true, Nat.zero_add, Nat.add_zero, Nat.le_refl, Nat.lt_irrefl, Nat.zero_lt_succ, Nat.zero_le, forall_const, List.cons.injEq, Value.int.injEq, Value.ref.injEq, Value.long.injEq, and_assoc, exists_and_left, exists_eq_left']
          try simp only [forall_eq]
          refine ⟨(m_76 hg).1, (m_76 hg).2.1, rnk sg, rfl, hr1, hr7, c0, o, W, hW, fun M2 hs2 hM2 => ?_⟩
          subst hB50
          unfold BX6_goesOn_50
          generalize hB55 : BX6_goesOn_55 g Q (T_X6_signed g) (T_X6_closes g) (T_X6_one g) (T_X6_rank g) (T_X6_lays g) (T_X6_push g) = B55
          simp only [T_X6_signed, T_X6_closes, T_X6_one, T_X6_rank, T_X6_lays, T_X6_push, i_const, i_lconst, i_iload, i_aload, i_lload, i_istore, i_astore, i_lstore, i_iinc, i_bin, i_div, i_un, i_i2l, i_l2i, i_lbin, i_lcmp, i_if, i_icmp, i_dup, i_dup_x1, i_dup2, i_pop, i_geti, i_getr, i_getd, i_puti, i_putz, i_putd, i_iald, i_bald, i_aald, i_iast, i_bast, i_alen, i_keep, i_ret, i_retz, i_reta, i_retl, i_retv, i_callv, i_callk, i_calls, i_mm, i_copy, i_under, i_undld, i_ldcs, i_sw, q_swc0, q_swc1, q_lg0, q_lg1, q_lent0, q_lent1, lset, lset2, q_lins0, q_lins1, q_ldel0, q_ldel1, q_ldel20, q_ldel21, q_lkeep0, q_lkeep1, q_memb0, q_memb1, cat2, Nat.reduceBEq, decide_true, decide_false, decide_eq_true_eq, cond_true, cond_false, Bool.and_true, Bool.and_false, Bool.true_and, Bool.false_and, f_iadd, f_isub, f_imul, f_ishl, f_ishr, f_iushr, f_iand, f_ior, f_idiv, f_irem, f_ineg, f_i2b, f_i2s, f_ladd, f_lmul, c_eq, c_ne, c_lt, c_ge, c_gt, c_le, cc_eq, cc_ne, cc_lt, cc_ge, cc_gt, cc_le, rfo, aof, csum, Value.category, List.take, List.drop, List.reverse, List.reverseAux, List.map, List.sum_cons, List.sum_nil, List.cons_append, List.nil_append, Option.toList, List.mem_cons, List.not_mem_nil, List.length_cons, List.length_nil, reduceIte, Nat.reduceEqDiff, Nat.reduceAdd, Nat.reduceLeDiff, Nat.reduceLT, a_day, Nat.zero_ne_one, Nat.one_ne_zero, false_and, and_false, true_and, and_true, or_false, false_or, or_true, true_or, not_true_eq_false, not_false_eq_true, Nat.zero_add, Nat.add_zero, Nat.le_refl, Nat.lt_irrefl, Nat.zero_lt_succ, Nat.zero_le, forall_const, List.cons.injEq, Value.int.injEq, Value.ref.injEq, Value.long.injEq, and_assoc, exists_and_left, exists_eq_left']
          try simp only [forall_eq]
          refine ⟨(m_76 hg).1, (m_76 hg).2.1, c0, _, _, hM2, by rw [lay_len]; exact hl, fun M3 hs3 hM3 => ?_⟩
          have hs03 := hs2.tr hs3
          have n25 : M3 76 25 = b2i (cm = true) := by rw [hs03 _ _ (by unfold YMa; omega)]; exact m25
          subst hB55
          unfold BX6_goesOn_55
          generalize hB65 : BX6_goesOn_65 g Q (T_X6_signed g) (T_X6_closes g) (T_X6_one g) (T_X6_rank g) (T_X6_lays g) (T_X6_push g) = B65
          simp only [T_X6_signed, T_X6_closes, T_X6_one, T_X6_rank, T_X6_lays, T_X6_push, i_const, i_lconst, i_iload, i_aload, i_lload, i_istore, i_astore, i_lstore, i_iinc, i_bin, i_div, i_un, i_i2l, i_l2i, i_lbin, i_lcmp, i_if, i_icmp, i_dup, i_dup_x1, i_dup2, i_pop, i_geti, i_getr, i_getd, i_puti, i_putz, i_putd, i_iald, i_bald, i_aald, i_iast, i_bast, i_alen, i_keep, i_ret, i_retz, i_reta, i_retl, i_retv, i_callv, i_callk, i_calls, i_mm, i_copy, i_under, i_undld, i_ldcs, i_sw, q_swc0, q_swc1, q_lg0, q_lg1, q_lent0, q_lent1, lset, lset2, q_lins0, q_lins1, q_ldel0, q_ldel1, q_ldel20, q_ldel21, q_lkeep0, q_lkeep1, q_memb0, q_memb1, cat2, Nat.reduceBEq, decide_true, decide_false, decide_eq_true_eq, cond_true, cond_false, Bool.and_true, Bool.and_false, Bool.true_and, Bool.false_and, f_iadd, f_isub, f_imul, f_ishl, f_ishr, f_iushr, f_iand, f_ior, f_idiv, f_irem, f_ineg, f_i2b, f_i2s, f_ladd, f_lmul, c_eq, c_ne, c_lt, c_ge, c_gt, c_le, cc_eq, cc_ne, cc_lt, cc_ge, cc_gt, cc_le, rfo, aof, csum, Value.category, List.take, List.drop, List.reverse, List.reverseAux, List.map, List.sum_cons, List.sum_nil, List.cons_append, List.nil_append, Option.toList, List.mem_cons, List.not_mem_nil, List.length_cons, List.length_nil, reduceIte, Nat.reduceEqDiff, Nat.reduceAdd, Nat.reduceLeDiff, Nat.reduceLT, a_day, Nat.zero_ne_one, Nat.one_ne_zero, false_and, and_false, true_and, and_true, or_false, false_or, or_true, true_or, not_true_eq_false, not_false_eq_true, Nat.zero_add, Nat.add_zero, Nat.le_refl, Nat.lt_irrefl, Nat.zero_lt_succ, Nat.zero_le, forall_const, List.cons.injEq, Value.int.injEq, Value.ref.injEq, Value.long.injEq, and_assoc, exists_and_left, exists_eq_left']
          try simp only [forall_eq]
          refine ⟨m_76 hg, ?_⟩
          have fin : ∀ M4, Sm (fun a b => a = 76 ∧ 25 ≤ b ∧ b ≤ 27) M3 M4 → M4 76 25 = b2i ((if rnk sg < 3 then false else if rnk sg = 4 then true else cm) = true) → M4 76 26 = 0 → M4 76 27 = b2i (decide (rnk sg < 3) = true) → Q (some (.int 1)) M4 := fun M4 hs4 f25 f26 f27 => h1 M4 ((hs03.mono fun _ _ q => Or.inl q).tr (hs4.mono fun _ _ q => Or.inr q)) ⟨hM3.sm hs4 (fun a b q => by unfold YMa at q; omega), f25, f26, f27⟩
          have go74 : BX6_goesOn_74 g Q (T_X6_signed g) (T_X6_closes g) (T_X6_one g) (T_X6_rank g) (T_X6_lays g) (T_X6_push g) [(0, .ref 76), (1, .int sg)] [.int (b2i (rnk sg < 3)), .ref 76] (mset M3 76 26 0) := by
            unfold BX6_goesOn_74
            simp only [T_X6_rank, i_const, i_lconst, i_iload, i_aload, i_lload, i_istore, i_astore, i_lstore, i_iinc, i_bin, i_div, i_un, i_i2l, i_l2i, i_lbin, i_lcmp, i_if, i_icmp, i_dup, i_dup_x1, i_dup2, i_pop, i_geti, i_getr, i_getd, i_puti, i_putz, i_putd, i_iald, i_bald, i_aald, i_iast, i_bast, i_alen, i_keep, i_ret, i_retz, i_reta, i_retl, i_retv, i_callv, i_callk, i_calls, i_mm, i_copy, i_under, i_undld, i_ldcs, i_sw, q_swc0, q_swc1, q_lg0, q_lg1, q_lent0, q_lent1, lset, lset2, q_lins0, q_lins1, q_ldel0, q_ldel1, q_ldel20, q_ldel21, q_lkeep0, q_lkeep1, q_memb0, q_memb1, cat2, Nat.reduceBEq, decide_true, decide_false, decide_eq_true_eq, cond_true, cond_false, Bool.and_true, Bool.and_false, Bool.true_and, Bool.false_and, f_iadd, f_isub, f_imul, f_ishl, f_ishr, f_iushr, f_iand, f_ior, f_idiv, f_irem, f_ineg, f_i2b, f_i2s, f_ladd, f_lmul, c_eq, c_ne, c_lt, c_ge, c_gt, c_le, cc_eq, cc_ne, cc_lt, cc_ge, cc_gt, cc_le, rfo, aof, csum, Value.category, List.take, List.drop, List.reverse, List.reverseAux, List.map, List.sum_cons, List.sum_nil, List.cons_append, List.nil_append, Option.toList, List.mem_cons, List.not_mem_nil, List.length_cons, List.length_nil, reduceIte, Nat.reduceEqDiff, Nat.reduceAdd, Nat.reduceLeDiff, Nat.reduceLT, a_day, Nat.zero_ne_one, Nat.one_ne_zero, false_and, and_false, true_and, and_true, or_false, false_or, or_true, true_or, not_true_eq_false, not_false_eq_true, Nat.zero_add, Nat.add_zero, Nat.le_refl, Nat.lt_irrefl, Nat.zero_lt_succ, Nat.zero_le, forall_const, List.cons.injEq, Value.int.injEq, Value.ref.injEq, Value.long.injEq, and_assoc, exists_and_left, exists_eq_left', forall_eq]
            rw [ms_s]
            have hs4 : Sm (fun a b => a = 76 ∧ 25 ≤ b ∧ b ≤ 27) M3 (mset (mset M3 76 26 0) 76 27 (b2i (rnk sg < 3))) := (Sm.rf.set _ ⟨rfl, by decide, by decide⟩).set _ ⟨rfl, by decide, by decide⟩
            refine ⟨m_76 hg, b2i_z _, m_76 hg, fun z => ?_, fun z => ⟨m_76 hg, fin _ (hs4.set _ ⟨rfl, by decide, by decide⟩) ?_ ?_ ?_⟩⟩
            · have z := b2n z
              unfold BX6_goesOn_96
              simp only [i_const, i_lconst, i_iload, i_aload, i_lload, i_istore, i_astore, i_lstore, i_iinc, i_bin, i_div, i_un, i_i2l, i_l2i, i_lbin, i_lcmp, i_if, i_icmp, i_dup, i_dup_x1, i_dup2, i_pop, i_geti, i_getr, i_getd, i_puti, i_putz, i_putd, i_iald, i_bald, i_aald, i_iast, i_bast, i_alen, i_keep, i_ret, i_retz, i_reta, i_retl, i_retv, i_callv, i_callk, i_calls, i_mm, i_copy, i_under, i_undld, i_ldcs, i_sw, q_swc0, q_swc1, q_lg0, q_lg1, q_lent0, q_lent1, lset, lset2, q_lins0, q_lins1, q_ldel0, q_ldel1, q_ldel20, q_ldel21, q_lkeep0, q_lkeep1, q_memb0, q_memb1, cat2, Nat.reduceBEq, decide_true, decide_false, decide_eq_true_eq, cond_true, cond_false, Bool.and_true, Bool.and_false, Bool.true_and, Bool.false_and, f_iadd, f_isub, f_imul, f_ishl, f_ishr, f_iushr, f_iand, f_ior, f_idiv, f_irem, f_ineg, f_i2b, f_i2s, f_ladd, f_lmul, c_eq, c_ne, c_lt, c_ge, c_gt, c_le, cc_eq, cc_ne, cc_lt, cc_ge, cc_gt, cc_le, rfo, aof, csum, Value.category, List.take, List.drop, List.reverse, List.reverseAux, List.map, List.sum_cons, List.sum_nil, List.cons_append, List.nil_append, Option.toList, List.mem_cons, List.not_mem_nil, List.length_cons, List.length_nil, reduceIte, Nat.reduceEqDiff, Nat.reduceAdd, Nat.reduceLeDiff, Nat.reduceLT, a_day, Nat.zero_ne_one, Nat.one_ne_zero, false_and, and_false, true_and, and_true, or_false, false_or, or_true, true_or, not_true_eq_false, not_false_eq_true, Nat.zero_add, Nat.add_zero, Nat.le_refl, Nat.lt_irrefl, Nat.zero_lt_succ, Nat.zero_le, forall_const, List.cons.injEq, Value.int.injEq, Value.ref.injEq, Value.long.injEq, and_assoc, exists_and_left, exists_eq_left', forall_eq]
              rw [show (4 : Int32) = nI 4 from rfl, nI_eq (by omega) (by decide)]
              refine ⟨fun w => fin _ hs4 ?_ ?_ ?_, fun w => ⟨m_76 hg, fin _ (hs4.set _ ⟨rfl, by decide, by decide⟩) ?_ ?_ ?_⟩⟩
              · rw [ms_j (by decide), ms_j (by decide), if_neg z, if_neg w]; exact n25
              · rw [ms_j (by decide), ms_s]
              · rw [ms_s]; unfold b2i; simp only [decide_eq_true_eq]
              · rw [ms_s, if_neg z, if_pos (Decidable.not_not.mp w)]; rfl
              · rw [ms_j (by decide), ms_j (by decide), ms_s]
              · rw [ms_j (by decide), ms_s]; unfold b2i; simp only [decide_eq_true_eq]
            · rw [ms_s, if_pos (b2t z)]; rfl
            · rw [ms_j (by decide), ms_j (by decide), ms_s]
            · rw [ms_j (by decide), ms_s]; unfold b2i; simp only [decide_eq_true_eq]
          subst hB65
          unfold BX6_goesOn_65
          generalize hB74 : BX6_goesOn_74 g Q (T_X6_signed g) (T_X6_closes g) (T_X6_one g) (T_X6_rank g) (T_X6_lays g) (T_X6_push g) = B74
          simp only [T_X6_signed, T_X6_closes, T_X6_one, T_X6_rank, T_X6_lays, T_X6_push, i_const, i_lconst, i_iload, i_aload, i_lload, i_istore, i_astore, i_lstore, i_iinc, i_bin, i_div, i_un, i_i2l, i_l2i, i_lbin, i_lcmp, i_if, i_icmp, i_dup, i_dup_x1, i_dup2, i_pop, i_geti, i_getr, i_getd, i_puti, i_putz, i_putd, i_iald, i_bald, i_aald, i_iast, i_bast, i_alen, i_keep, i_ret, i_retz, i_reta, i_retl, i_retv, i_callv, i_callk, i_calls, i_mm, i_copy, i_under, i_undld, i_ldcs, i_sw, q_swc0, q_swc1, q_lg0, q_lg1, q_lent0, q_lent1, lset, lset2, q_lins0, q_lins1, q_ldel0, q_ldel1, q_ldel20, q_ldel21, q_lkeep0, q_lkeep1, q_memb0, q_memb1, cat2, Nat.reduceBEq, decide_true, decide_false, decide_eq_true_eq, cond_true, cond_false, Bool.and_true, Bool.and_false, Bool.true_and, Bool.false_and, f_iadd, f_isub, f_imul, f_ishl, f_ishr, f_iushr, f_iand, f_ior, f_idiv, f_irem, f_ineg, f_i2b, f_i2s, f_ladd, f_lmul, c_eq, c_ne, c_lt, c_ge, c_gt, c_le, cc_eq, cc_ne, cc_lt, cc_ge, cc_gt, cc_le, rfo, aof, csum, Value.category, List.take, List.drop, List.reverse, List.reverseAux, List.map, List.sum_cons, List.sum_nil, List.cons_append, List.nil_append, Option.toList, List.mem_cons, List.not_mem_nil, List.length_cons, List.length_nil, reduceIte, Nat.reduceEqDiff, Nat.reduceAdd, Nat.reduceLeDiff, Nat.reduceLT, a_day, Nat.zero_ne_one, Nat.one_ne_zero, false_and, and_false, true_and, and_true, or_false, false_or, or_true, true_or, not_true_eq_false, not_false_eq_true, Nat.zero_add, Nat.add_zero, Nat.le_refl, Nat.lt_irrefl, Nat.zero_lt_succ, Nat.zero_le, forall_const, List.cons.injEq, Value.int.injEq, Value.ref.injEq, Value.long.injEq, and_assoc, exists_and_left, exists_eq_left']
          try simp only [forall_eq]
          rw [show (3 : Int32) = nI 3 from rfl, nI_leI (by decide) (by omega)]
          refine ⟨fun w => ?_, fun w => ?_⟩
          · rw [b2i_f (by omega)] at go74; subst hB74; exact go74
          · rw [b2i_t (by omega)] at go74; subst hB74; exact go74
        · simp only [step]; rw [if_neg u, if_pos (Decidable.not_not.mp z)]
      · have u := Decidable.not_not.mp u
        refine h2 ?_ M' hs
        have e : lay 1 o W = ((lay 1 o W).1, []) := Prod.ext rfl hn
        simp only [step]; rw [if_pos u, e]
      · have u := Decidable.not_not.mp u
        refine h1 (( lay 7 (lay 1 o W).1 W1).1, (lay 7 (lay 1 o W).1 W1).2, decide (b = -2), true, st') ?_ M' hs ⟨hM', ?_, ?_, ?_⟩
        · have e : lay 1 o W = ((lay 1 o W).1, b :: W1) := Prod.ext rfl hb
          simp only [step]; rw [if_pos u, e]
        · exact e25.trans (by unfold b2i; simp only [decide_eq_true_eq])
        · exact e26
        · rw [e27]; exact m27
    · have y : bh = false := by
        have := b2n (Decidable.not_not.mp y)
        cases bh with
        | false => rfl
        | true => exact absurd rfl this
      subst y
      exact ⟨m_76 hg, (m_76 hg).1, (m_76 hg).2.1, c0, o, W, cm, st', m27, hM0, s0, v, hT, hl, h1, fun q => h2 q M0 Sm.rf⟩
    
