/-! ===== the class: told, set, seam, hours, pass, force ===== -/
theorem t_m1 : (-1 : Int32).toInt = -1 := rfl
theorem t_0 : (0 : Int32).toInt = 0 := rfl
theorem t_1 : (1 : Int32).toInt = 1 := rfl
theorem t_2 : (2 : Int32).toInt = 2 := rfl
theorem t_4 : (4 : Int32).toInt = 4 := rfl
theorem t_5 : (5 : Int32).toInt = 5 := rfl
theorem t_9 : (9 : Int32).toInt = 9 := rfl
theorem t_10 : (10 : Int32).toInt = 10 := rfl
theorem t_12 : (12 : Int32).toInt = 12 := rfl
theorem t_15 : (15 : Int32).toInt = 15 := rfl
def factB (n : Nat) (w o : Int32) : Prop := w = 0 ∨ ((w = 1 ∨ (10 ≤ w ∧ w ≤ 12)) ∧ 0 ≤ o ∧ o ≤ 15) ∨ (¬ (10 ≤ w ∧ w ≤ 12) ∧ (2 ≤ w ∧ w ≤ 9) ∧ 0 ≤ o ∧ o < nI n)
theorem fact_k {n : Nat} {w o : Int32} (h : factB n w o) : ∃ k, k ≤ 12 ∧ w = nI k := by
  have h0 : 0 ≤ w ∧ w ≤ 12 := by
    unfold factB at h
    rcases h with h | ⟨h | h, -⟩ | ⟨-, h, -⟩
    · rw [h]; decide
    · rw [h]; decide
    · simp only [i_le, t_0, t_10, t_12] at h ⊢; omega
    · simp only [i_le, t_0, t_2, t_9, t_12] at h ⊢; omega
  obtain ⟨k, hk, rfl⟩ := nI_of (i_not_lt.mpr h0.1)
  exact ⟨k, (nI_leI (b := 12) hk (by decide)).mp h0.2, rfl⟩
theorem fact_of {n : Nat} {w o : Int32} : isOfN n w o ↔ factB n w o ∧ w ≤ 4 := by
  unfold isOfN factB
  constructor
  · intro h
    rcases h with h | h | h
    · exact ⟨Or.inl h, by rw [h]; decide⟩
    · exact ⟨Or.inr (Or.inl ⟨Or.inl h.1, h.2⟩), by rw [h.1]; decide⟩
    · refine ⟨Or.inr (Or.inr ⟨?_, ?_, h.2⟩), h.1.2⟩
      · simp only [i_le, t_2, t_4, t_10, t_12] at h ⊢; omega
      · simp only [i_le, t_2, t_4, t_9] at h ⊢; omega
  · rintro ⟨h | h | h, h4⟩
    · exact Or.inl h
    · rcases h.1 with q | q
      · exact Or.inr (Or.inl ⟨q, h.2⟩)
      · simp only [i_le, t_4, t_10, t_12] at q h4; omega
    · exact Or.inr (Or.inr ⟨⟨h.2.1.1, h4⟩, h.2.2⟩)
theorem told_bad {X : XV} {D : DV} {w o : Int32} (h : ¬ factB (dn D) w o) : toldA X D o w = -1000 := by
  unfold toldA
  by_cases a : 0 ≤ w ∧ w ≤ 4
  · have : ¬ (w = 0 ∨ (w = 1 ∧ 0 ≤ o ∧ o ≤ 15) ∨ ((2 ≤ w ∧ w ≤ 4) ∧ 0 ≤ o ∧ o < nI (dn D))) := fun q => h (fact_of.mp q).1
    rw [if_pos a, if_neg this]
  · rw [if_neg a]
    by_cases b : 10 ≤ w ∧ w ≤ 12
    · rw [if_pos b, if_neg]
      exact fun q => h (Or.inr (Or.inl ⟨Or.inr b, q⟩))
    · rw [if_neg b]
      by_cases c : 0 ≤ o ∧ o < nI (dn D)
      · rw [if_pos c]
        have no : ∀ k : Int32, 2 ≤ k → k ≤ 9 → ¬ w = k := fun k h1 h2 e => h (Or.inr (Or.inr ⟨b, by rw [e]; exact ⟨h1, h2⟩, c⟩))
        rw [if_neg (no 5 (by decide) (by decide)), if_neg (no 6 (by decide) (by decide)), if_neg (no 7 (by decide) (by decide)), if_neg (no 8 (by decide) (by decide)), if_neg (no 9 (by decide) (by decide))]
      · rw [if_neg c]
theorem told_get {X : XV} {D : DV} {w o : Int32} (h : isOfN (dn D) w o) : toldA X D o w = getA D w o := by
  have h4 := (fact_of.mp h).2
  obtain ⟨k, hk, e⟩ := fact_k (fact_of.mp h).1
  have h0 : 0 ≤ w := by rw [e]; exact nI_pos' (by omega)
  unfold toldA
  have : (w = 0 ∨ (w = 1 ∧ 0 ≤ o ∧ o ≤ 15) ∨ ((2 ≤ w ∧ w ≤ 4) ∧ 0 ≤ o ∧ o < nI (dn D))) := h
  rw [if_pos ⟨h0, h4⟩, if_pos this]
theorem shr_1 (hh : Nat) (G : Nat) (hG : G < 65536) (h16 : hh < 16) : (nI G >>> (nI hh &&& 31)) &&& 1 = b2i (G.testBit hh = true) := by
  rw [shr_bit hG h16]
  split
  · next h => rw [b2i_t h]
  · next h => rw [b2i_f h]
def tosA (X : XV) (D : DV) (s : Nat) (w : Int32) : Int32 := if w = 2 then D 2 s else if w = 3 then D 5 s else if w = 4 then D 6 s else if w = 5 then D 1 s else if w = 6 then D 3 s else if w = 7 then D 4 s else if w = 8 then wea X D s else sta X D s
def T_X5_toldOfSeam (g : WG) (as : List Value) (M : MM) (Q : Option Value → MM → Prop) : Prop := ∃ (s : Nat) (w : Int32), as = [.ref 0, .ref (45 + s), .int w] ∧ okD M 40 ∧ s < dn (dv M 40) ∧ ∀ M', Sm (XP 40) M M' → Q (some (.int (tosA (xc M) (dv M 40) s w))) M'
set_option maxRecDepth 100000 in
set_option maxHeartbeats 1000000 in
theorem t_X5_toldOfSeam {l : Launch} {g : WG} (hg : Full g) : Ct l g yX5_toldOfSeam cX5_toldOfSeam 3 ((Option.some FieldType.int)) 5 (T_X5_toldOfSeam g) := by
  refine Ct.of (by decide) (fun as M Q h => ?_) (fun p e s m args below meth c as M Q h C => ?_)
  · obtain ⟨sx, w, rfl, ho, hs, h⟩ := h; exact ⟨by simp, by simp [Value.category]⟩
  · obtain ⟨sx, w, rfl, ho, hs, h⟩ := h
    have hn := ho.n
    have hmany := ho.many
    refine s_of (fun lv st M0 hs => ?_) (WX5_toldOfSeam_0 C (t_X0_whole hg) (by decide) (t_X0_wears hg) (by decide) (t_X0_stands hg) (by decide))
    obtain ⟨rfl, rfl, rfl⟩ := hs
    unfold BX5_toldOfSeam_0
    generalize hB94 : BX5_toldOfSeam_94 g Q (T_X0_whole g) (T_X0_wears g) (T_X0_stands g) = B94
    generalize hB110 : BX5_toldOfSeam_110 g Q (T_X0_whole g) (T_X0_wears g) (T_X0_stands g) = B110
    simp only [T_X0_whole, T_X0_wears, T_X0_stands, i_const, i_lconst, i_iload, i_aload, i_lload, i_istore, i_astore, i_lstore, i_iinc, i_bin, i_div, i_un, i_i2l, i_l2i, i_lbin, i_lcmp, i_if, i_icmp, i_dup, i_dup_x1, i_dup2, i_pop, i_geti, i_getr, i_getd, i_puti, i_putz, i_putd, i_iald, i_bald, i_aald, i_iast, i_bast, i_alen, i_keep, i_ret, i_retz, i_reta, i_retl, i_retv, i_callv, i_callk, i_calls, i_mm, i_copy, i_under, i_undld, i_ldcs, i_sw, q_swc0, q_swc1, q_lg0, q_lg1, q_lent0, q_lent1, lset, lset2, q_lins0, q_lins1, q_ldel0, q_ldel1, q_ldel20, q_ldel21, q_lkeep0, q_lkeep1, q_memb0, q_memb1, cat2, Nat.reduceBEq, decide_true, decide_false, decide_eq_true_eq, cond_true, cond_false, Bool.and_true, Bool.and_false, Bool.true_and, Bool.false_and, f_iadd, f_isub, f_imul, f_ishl, f_ishr, f_iushr, f_iand, f_ior, f_idiv, f_irem, f_ineg, f_i2b, f_i2s, f_ladd, f_lmul, c_eq, c_ne, c_lt, c_ge, c_gt, c_le, cc_eq, cc_ne, cc_lt, cc_ge, cc_gt, cc_le, rfo, aof, csum, Value.category, List.take, List.drop, List.reverse, List.reverseAux, List.map, List.sum_cons, List.sum_nil, List.cons_append, List.nil_append, Option.toList, List.mem_cons, List.not_mem_nil, List.length_cons, List.length_nil, reduceIte, Nat.reduceEqDiff, Nat.reduceAdd, Nat.reduceLeDiff, Nat.reduceLT, a_day, Nat.zero_ne_one, Nat.one_ne_zero, false_and, and_false, true_and, and_true, or_false, false_or, or_true, true_or, not_true_eq_false, not_false_eq_true, Nat.zero_add, Nat.add_zero, Nat.le_refl, Nat.lt_irrefl, Nat.zero_lt_succ, Nat.zero_le, forall_const, List.cons.injEq, Value.int.injEq, Value.ref.injEq, Value.long.injEq, and_assoc, exists_and_left, exists_eq_left']
    try simp only [forall_eq]
    unfold tosA at h
    have so : okq g 1 (45 + sx) := seam_ok (q := 40) hg D40 (by omega)
    have k : ∀ j, j < 6 → M0 (45 + sx) j = dv M0 40 (j + 1) sx := fun j hj => (dv_s (q := 40) j hj hs).symm
    rw [k 0 (by decide), k 1 (by decide), k 2 (by decide), k 3 (by decide), k 4 (by decide), k 5 (by decide)]
    refine ⟨fun e2 => ?_, fun e2 => ⟨fun e3 => ?_, fun e3 => ⟨fun e4 => ?_, fun e4 => ⟨fun e5 => ?_, fun e5 => ⟨fun e6 => ?_, fun e6 => ⟨fun e7 => ?_, fun e7 => ⟨fun e8 => ?_, fun e8 => ?_⟩⟩⟩⟩⟩⟩⟩
    · rw [if_pos e2] at h; exact ⟨so, h M0 Sm.rf⟩
    · rw [if_neg e2, if_pos e3] at h; exact ⟨so, h M0 Sm.rf⟩
    · rw [if_neg e2, if_neg e3, if_pos e4] at h
      have hf := h M0 Sm.rf
      refine ⟨so, fun y => ?_, fun y => ?_⟩
      · rw [y] at hf; exact hf
      · rcases (ho.seam hs).2.2.2.2.2.1 with q | q
        · exact absurd q y
        · rw [q] at hf; exact hf
    · rw [if_neg e2, if_neg e3, if_neg e4, if_pos e5] at h; exact ⟨so, h M0 Sm.rf⟩
    · rw [if_neg e2, if_neg e3, if_neg e4, if_neg e5, if_pos e6] at h; exact ⟨so, h M0 Sm.rf⟩
    · rw [if_neg e2, if_neg e3, if_neg e4, if_neg e5, if_neg e6, if_pos e7] at h; exact ⟨so, h M0 Sm.rf⟩
    · rw [if_neg e2, if_neg e3, if_neg e4, if_neg e5, if_neg e6, if_neg e7, if_pos e8] at h
      refine ⟨c_0 hg, c_0 hg, (c_40 hg).1, (c_40 hg).2.1, D40, hmany, hn, ?_⟩
      subst hB94
      unfold BX5_toldOfSeam_94
      simp only [T_X0_whole, T_X0_wears, T_X0_stands, i_const, i_lconst, i_iload, i_aload, i_lload, i_istore, i_astore, i_lstore, i_iinc, i_bin, i_div, i_un, i_i2l, i_l2i, i_lbin, i_lcmp, i_if, i_icmp, i_dup, i_dup_x1, i_dup2, i_pop, i_geti, i_getr, i_getd, i_puti, i_putz, i_putd, i_iald, i_bald, i_aald, i_iast, i_bast, i_alen, i_keep, i_ret, i_retz, i_reta, i_retl, i_retv, i_callv, i_callk, i_calls, i_mm, i_copy, i_under, i_undld, i_ldcs, i_sw, q_swc0, q_swc1, q_lg0, q_lg1, q_lent0, q_lent1, lset, lset2, q_lins0, q_lins1, q_ldel0, q_ldel1, q_ldel20, q_ldel21, q_lkeep0, q_lkeep1, q_memb0, q_memb1, cat2, Nat.reduceBEq, decide_true, decide_false, decide_eq_true_eq, cond_true, cond_false, Bool.and_true, Bool.and_false, Bool.true_and, Bool.false_and, f_iadd, f_isub, f_imul, f_ishl, f_ishr, f_iushr, f_iand, f_ior, f_idiv, f_irem, f_ineg, f_i2b, f_i2s, f_ladd, f_lmul, c_eq, c_ne, c_lt, c_ge, c_gt, c_le, cc_eq, cc_ne, cc_lt, cc_ge, cc_gt, cc_le, rfo, aof, csum, Value.category, List.take, List.drop, List.reverse, List.reverseAux, List.map, List.sum_cons, List.sum_nil, List.cons_append, List.nil_append, Option.toList, List.mem_cons, List.not_mem_nil, List.length_cons, List.length_nil, reduceIte, Nat.reduceEqDiff, Nat.reduceAdd, Nat.reduceLeDiff, Nat.reduceLT, a_day, Nat.zero_ne_one, Nat.one_ne_zero, false_and, and_false, true_and, and_true, or_false, false_or, or_true, true_or, not_true_eq_false, not_false_eq_true, Nat.zero_add, Nat.add_zero, Nat.le_refl, Nat.lt_irrefl, Nat.zero_lt_succ, Nat.zero_le, forall_const, List.cons.injEq, Value.int.injEq, Value.ref.injEq, Value.long.injEq, and_assoc, exists_and_left, exists_eq_left']
      try simp only [forall_eq]
      exact ⟨(c_40 hg).1, (c_40 hg).2.1, sx, rfl, ho, hs, fun M' hs' => h M' (hs'.mono fun a b q => XF_P q)⟩
    · rw [if_neg e2, if_neg e3, if_neg e4, if_neg e5, if_neg e6, if_neg e7, if_neg e8] at h
      refine ⟨c_0 hg, c_0 hg, (c_40 hg).1, (c_40 hg).2.1, D40, hmany, hn, ?_⟩
      subst hB110
      unfold BX5_toldOfSeam_110
      simp only [T_X0_whole, T_X0_wears, T_X0_stands, i_const, i_lconst, i_iload, i_aload, i_lload, i_istore, i_astore, i_lstore, i_iinc, i_bin, i_div, i_un, i_i2l, i_l2i, i_lbin, i_lcmp, i_if, i_icmp, i_dup, i_dup_x1, i_dup2, i_pop, i_geti, i_getr, i_getd, i_puti, i_putz, i_putd, i_iald, i_bald, i_aald, i_iast, i_bast, i_alen, i_keep, i_ret, i_retz, i_reta, i_retl, i_retv, i_callv, i_callk, i_calls, i_mm, i_copy, i_under, i_undld, i_ldcs, i_sw, q_swc0, q_swc1, q_lg0, q_lg1, q_lent0, q_lent1, lset, lset2, q_lins0, q_lins1, q_ldel0, q_ldel1, q_ldel20, q_ldel21, q_lkeep0, q_lkeep1, q_memb0, q_memb1, cat2, Nat.reduceBEq, decide_true, decide_false, decide_eq_true_eq, cond_true, cond_false, Bool.and_true, Bool.and_false, Bool.true_and, Bool.false_and, f_iadd, f_isub, f_imul, f_ishl, f_ishr, f_iushr, f_iand, f_ior, f_idiv, f_irem, f_ineg, f_i2b, f_i2s, f_ladd, f_lmul, c_eq, c_ne, c_lt, c_ge, c_gt, c_le, cc_eq, cc_ne, cc_lt, cc_ge, cc_gt, cc_le, rfo, aof, csum, Value.category, List.take, List.drop, List.reverse, List.reverseAux, List.map, List.sum_cons, List.sum_nil, List.cons_append, List.nil_append, Option.toList, List.mem_cons, List.not_mem_nil, List.length_cons, List.length_nil, reduceIte, Nat.reduceEqDiff, Nat.reduceAdd, Nat.reduceLeDiff, Nat.reduceLT, a_day, Nat.zero_ne_one, Nat.one_ne_zero, false_and, and_false, true_and, and_true, or_false, false_or, or_true, true_or, not_true_eq_false, not_false_eq_true, Nat.zero_add, Nat.add_zero, Nat.le_refl, Nat.lt_irrefl, Nat.zero_lt_succ, Nat.zero_le, forall_const, List.cons.injEq, Value.int.injEq, Value.ref.injEq, Value.long.injEq, and_assoc, exists_and_left, exists_eq_left']
      try simp only [forall_eq]
      exact ⟨(c_40 hg).1, (c_40 hg).2.1, sx, rfl, ho, hs, fun M' hs' => h M' (hs'.mono fun a b q => XF_P q)⟩
def T_X5_told (g : WG) (as : List Value) (M : MM) (Q : Option Value → MM → Prop) : Prop := ∃ o w, as = [.ref 0, .int o, .int w] ∧ okD M 40 ∧ ∀ M', Sm (XP 40) M M' → Q (some (.int (toldA (xc M) (dv M 40) o w))) M'
set_option maxRecDepth 100000 in
set_option maxHeartbeats 2000000 in
theorem t_X5_told {l : Launch} {g : WG} (hg : Full g) : Ct l g yX5_told cX5_told 3 ((Option.some FieldType.int)) 6 (T_X5_told g) := by
  refine Ct.of (by decide) (fun as M Q h => ?_) (fun p e s m args below meth c as M Q h C => ?_)
  · obtain ⟨o, w, rfl, ho, h⟩ := h; exact ⟨by simp, by simp [Value.category]⟩
  · obtain ⟨o, w, rfl, ho, h⟩ := h
    have hn := ho.n
    have hmany := ho.many
    obtain ⟨-, Tn, hwf, htx⟩ := id ho
    refine s_of (fun lv st M0 hs => ?_) (WX5_told_0 C (t_X5_isFact hg) (by decide) (t_X0_weigh hg) (by decide) (t_X5_toldOfSeam hg) (by decide) (t_X0_glad hg) (by decide))
    obtain ⟨rfl, rfl, rfl⟩ := hs
    unfold BX5_told_0
    generalize hB6 : BX5_told_6 g Q (T_X5_isFact g) (T_X0_weigh g) (T_X5_toldOfSeam g) (T_X0_glad g) = B6
    simp only [T_X5_isFact, T_X0_weigh, T_X5_toldOfSeam, T_X0_glad, i_const, i_lconst, i_iload, i_aload, i_lload, i_istore, i_astore, i_lstore, i_iinc, i_bin, i_div, i_un, i_i2l, i_l2i, i_lbin, i_lcmp, i_if, i_icmp, i_dup, i_dup_x1, i_dup2, i_pop, i_geti, i_getr, i_getd, i_puti, i_putz, i_putd, i_iald, i_bald, i_aald, i_iast, i_bast, i_alen, i_keep, i_ret, i_retz, i_reta, i_retl, i_retv, i_callv, i_callk, i_calls, i_mm, i_copy, i_under, i_undld, i_ldcs, i_sw, q_swc0, q_swc1, q_lg0, q_lg1, q_lent0, q_lent1, lset, lset2, q_lins0, q_lins1, q_ldel0, q_ldel1, q_ldel20, q_ldel21, q_lkeep0, q_lkeep1, q_memb0, q_memb1, cat2, Nat.reduceBEq, decide_true, decide_false, decide_eq_true_eq, cond_true, cond_false, Bool.and_true, Bool.and_false, Bool.true_and, Bool.false_and, f_iadd, f_isub, f_imul, f_ishl, f_ishr, f_iushr, f_iand, f_ior, f_idiv, f_irem, f_ineg, f_i2b, f_i2s, f_ladd, f_lmul, c_eq, c_ne, c_lt, c_ge, c_gt, c_le, cc_eq, cc_ne, cc_lt, cc_ge, cc_gt, cc_le, rfo, aof, csum, Value.category, List.take, List.drop, List.reverse, List.reverseAux, List.map, List.sum_cons, List.sum_nil, List.cons_append, List.nil_append, Option.toList, List.mem_cons, List.not_mem_nil, List.length_cons, List.length_nil, reduceIte, Nat.reduceEqDiff, Nat.reduceAdd, Nat.reduceLeDiff, Nat.reduceLT, a_day, Nat.zero_ne_one, Nat.one_ne_zero, false_and, and_false, true_and, and_true, or_false, false_or, or_true, true_or, not_true_eq_false, not_false_eq_true, Nat.zero_add, Nat.add_zero, Nat.le_refl, Nat.lt_irrefl, Nat.zero_lt_succ, Nat.zero_le, forall_const, List.cons.injEq, Value.int.injEq, Value.ref.injEq, Value.long.injEq, and_assoc, exists_and_left, exists_eq_left']
    try simp only [forall_eq]
    refine ⟨(c_0 hg).1, (c_0 hg).2.1, dn (dv M0 40), by omega, hmany, fun c => ?_, fun c => ?_⟩
    · have c : factB (dn (dv M0 40)) w o := by unfold factB; simpa only [and_assoc] using c
      obtain ⟨k, hk, rfl⟩ := fact_k c
      have kz : ∀ j, j < 100 → (nI k = nI j ↔ k = j) := fun j hj => nI_eq (by omega) (by omega)
      subst hB6
      unfold BX5_told_6
      generalize hB68 : BX5_told_68 g Q (T_X5_isFact g) (T_X0_weigh g) (T_X5_toldOfSeam g) (T_X0_glad g) = B68
      simp only [T_X5_isFact, T_X0_weigh, T_X5_toldOfSeam, T_X0_glad, i_const, i_lconst, i_iload, i_aload, i_lload, i_istore, i_astore, i_lstore, i_iinc, i_bin, i_div, i_un, i_i2l, i_l2i, i_lbin, i_lcmp, i_if, i_icmp, i_dup, i_dup_x1, i_dup2, i_pop, i_geti, i_getr, i_getd, i_puti, i_putz, i_putd, i_iald, i_bald, i_aald, i_iast, i_bast, i_alen, i_keep, i_ret, i_retz, i_reta, i_retl, i_retv, i_callv, i_callk, i_calls, i_mm, i_copy, i_under, i_undld, i_ldcs, i_sw, q_swc0, q_swc1, q_lg0, q_lg1, q_lent0, q_lent1, lset, lset2, q_lins0, q_lins1, q_ldel0, q_ldel1, q_ldel20, q_ldel21, q_lkeep0, q_lkeep1, q_memb0, q_memb1, cat2, Nat.reduceBEq, decide_true, decide_false, decide_eq_true_eq, cond_true, cond_false, Bool.and_true, Bool.and_false, Bool.true_and, Bool.false_and, f_iadd, f_isub, f_imul, f_ishl, f_ishr, f_iushr, f_iand, f_ior, f_idiv, f_irem, f_ineg, f_i2b, f_i2s, f_ladd, f_lmul, c_eq, c_ne, c_lt, c_ge, c_gt, c_le, cc_eq, cc_ne, cc_lt, cc_ge, cc_gt, cc_le, rfo, aof, csum, Value.category, List.take, List.drop, List.reverse, List.reverseAux, List.map, List.sum_cons, List.sum_nil, List.cons_append, List.nil_append, Option.toList, List.mem_cons, List.not_mem_nil, List.length_cons, List.length_nil, reduceIte, Nat.reduceEqDiff, Nat.reduceAdd, Nat.reduceLeDiff, Nat.reduceLT, a_day, Nat.zero_ne_one, Nat.one_ne_zero, false_and, and_false, true_and, and_true, or_false, false_or, or_true, true_or, not_true_eq_false, not_false_eq_true, Nat.zero_add, Nat.add_zero, Nat.le_refl, Nat.lt_irrefl, Nat.zero_lt_succ, Nat.zero_le, forall_const, List.cons.injEq, Value.int.injEq, Value.ref.injEq, Value.long.injEq, and_assoc, exists_and_left, exists_eq_left']
      try simp only [forall_eq]
      rw [show (10 : Int32) = nI 10 from rfl, nI_leI (a := 10) (by decide) (by omega)]
      refine ⟨fun _ => ⟨fun e0 => ⟨fun e1 => ⟨fun e10 => ?_, fun e10 => ?_⟩, fun e1 => ?_⟩, fun e0 => ?_⟩, fun z => absurd (by decide) z⟩
      · have hk2 : k = 10 ∨ k = 11 ∨ k = 12 := by omega
        have hoo : 0 ≤ o ∧ o ≤ 15 := by
          unfold factB at c
          rcases c with q | q | q
          · exact absurd q e0
          · exact q.2
          · rcases hk2 with rfl | rfl | rfl <;> exact absurd (by decide) q.1
        obtain ⟨i, hi31, rfl⟩ := nI_of (i_not_lt.mpr hoo.1)
        have hi : i < 16 := by have := (nI_leI (b := 15) hi31 (by decide)).mp hoo.2; omega
        have hA : toldA (xc M0) (dv M0 40) (nI i) (nI k) = if nI k = 10 then gld (xc M0) (dv M0 40) i else if nI k = 11 then b2i (gon (dv M0 40) i = true) else strn (xc M0) (dv M0 40) (dn (dv M0 40)) i := by
          unfold toldA
          rw [if_neg (by rcases hk2 with rfl | rfl | rfl <;> decide), if_pos (by rcases hk2 with rfl | rfl | rfl <;> decide), if_pos hoo, nI_clamp hi31]
        rw [hA] at h
        refine ⟨c_0 hg, (c_40 hg).1, (c_40 hg).2.1, ho, fun M1 hs1 h7 h3 h8 => ?_⟩
        have hf := h M1 hs1
        subst hB68
        unfold BX5_told_68
        simp only [T_X5_isFact, T_X0_weigh, T_X5_toldOfSeam, T_X0_glad, i_const, i_lconst, i_iload, i_aload, i_lload, i_istore, i_astore, i_lstore, i_iinc, i_bin, i_div, i_un, i_i2l, i_l2i, i_lbin, i_lcmp, i_if, i_icmp, i_dup, i_dup_x1, i_dup2, i_pop, i_geti, i_getr, i_getd, i_puti, i_putz, i_putd, i_iald, i_bald, i_aald, i_iast, i_bast, i_alen, i_keep, i_ret, i_retz, i_reta, i_retl, i_retv, i_callv, i_callk, i_calls, i_mm, i_copy, i_under, i_undld, i_ldcs, i_sw, q_swc0, q_swc1, q_lg0, q_lg1, q_lent0, q_lent1, lset, lset2, q_lins0, q_lins1, q_ldel0, q_ldel1, q_ldel20, q_ldel21, q_lkeep0, q_lkeep1, q_memb0, q_memb1, cat2, Nat.reduceBEq, decide_true, decide_false, decide_eq_true_eq, cond_true, cond_false, Bool.and_true, Bool.and_false, Bool.true_and, Bool.false_and, f_iadd, f_isub, f_imul, f_ishl, f_ishr, f_iushr, f_iand, f_ior, f_idiv, f_irem, f_ineg, f_i2b, f_i2s, f_ladd, f_lmul, c_eq, c_ne, c_lt, c_ge, c_gt, c_le, cc_eq, cc_ne, cc_lt, cc_ge, cc_gt, cc_le, rfo, aof, csum, Value.category, List.take, List.drop, List.reverse, List.reverseAux, List.map, List.sum_cons, List.sum_nil, List.cons_append, List.nil_append, Option.toList, List.mem_cons, List.not_mem_nil, List.length_cons, List.length_nil, reduceIte, Nat.reduceEqDiff, Nat.reduceAdd, Nat.reduceLeDiff, Nat.reduceLT, a_day, Nat.zero_ne_one, Nat.one_ne_zero, false_and, and_false, true_and, and_true, or_false, false_or, or_true, true_or, not_true_eq_false, not_false_eq_true, Nat.zero_add, Nat.add_zero, Nat.le_refl, Nat.lt_irrefl, Nat.zero_lt_succ, Nat.zero_le, forall_const, List.cons.injEq, Value.int.injEq, Value.ref.injEq, Value.long.injEq, and_assoc, exists_and_left, exists_eq_left']
        try simp only [forall_eq]
        rw [h7, nI_clamp hi31, h3 i hi, shr_1 _ _ (gmk_16 hwf) hi, gon_bit hwf hi]
        refine ⟨fun y10 => ⟨fun y11 => ?_, fun y11 => ?_⟩, fun y10 => ?_⟩
        · rw [if_neg y10, if_neg y11] at hf
          exact ⟨c_0 hg, c_40 hg, okR hg (by decide) (by decide) rfl, vp_in_nI (n := i) (N := 16) hi (by decide), hf⟩
        · rw [if_neg y10, if_pos (Decidable.not_not.mp y11)] at hf
          exact ⟨c_0 hg, c_40 hg, hf⟩
        · rw [if_pos (Decidable.not_not.mp y10)] at hf
          refine ⟨c_0 hg, (c_40 hg).1, (c_40 hg).2.1, i, rfl, D40, hi, gmk (dv M0 40) (dn (dv M0 40)), gmk_16 hwf, rfl, ?_⟩
          have e1 : M1 41 i = dv M0 40 0 i := by rw [hs1 41 i (by unfold XP isPile; omega)]; exact (dv_0 M0 40 hi).symm
          have e2 : M1 43 i = strn (xc M0) (dv M0 40) (dn (dv M0 40)) i := h3 i hi
          rw [gon_bit hwf hi]
          show Q (some (.int (if gon (dv M0 40) i = true then 0 else gl9 (M1 41 i - M1 43 i)))) M1
          rw [e1, e2, ← gld_eq]
          exact hf
      · have hlt : k < 10 := by omega
        have hk2 : 2 ≤ k := by
          have n0 : ¬ k = 0 := fun q => e0 (by rw [q]; rfl)
          have n1 : ¬ k = 1 := fun q => e1 (by rw [q]; rfl)
          omega
        have hoo : 0 ≤ o ∧ o < nI (dn (dv M0 40)) := by
          unfold factB at c
          rcases c with q | q | q
          · exact absurd q e0
          · rcases q.1 with r | r
            · exact absurd r e1
            · exact absurd ((nI_leI (a := 10) (by decide) (by omega)).mp r.1) e10
          · exact q.2.2
        obtain ⟨i, hi31, rfl⟩ := nI_of (i_not_lt.mpr hoo.1)
        have hi : i < dn (dv M0 40) := (nI_ltI hi31 (by omega)).mp hoo.2
        have hA : toldA (xc M0) (dv M0 40) (nI i) (nI k) = tosA (xc M0) (dv M0 40) i (nI k) := by
          have : k = 2 ∨ k = 3 ∨ k = 4 ∨ k = 5 ∨ k = 6 ∨ k = 7 ∨ k = 8 ∨ k = 9 := by omega
          rcases this with rfl | rfl | rfl | rfl | rfl | rfl | rfl | rfl
          · rw [told_get (Or.inr (Or.inr ⟨by decide, hoo⟩))]; unfold getA tosA; rw [nI_clamp hi31]; rfl
          · rw [told_get (Or.inr (Or.inr ⟨by decide, hoo⟩))]; unfold getA tosA; rw [nI_clamp hi31]; rfl
          · rw [told_get (Or.inr (Or.inr ⟨by decide, hoo⟩))]; unfold getA tosA; rw [nI_clamp hi31]; rfl
          all_goals
            unfold toldA tosA
            rw [if_neg (by decide), if_neg (by decide), if_pos hoo, nI_clamp hi31]
            rfl
        rw [hA] at h
        rw [nI_clamp hi31]
        exact ⟨c_0 hg, c_40 hg, okR hg (by decide) (by decide) rfl, vp_in_nI (n := i) (N := 7) (by omega) (by decide), (c_0 hg).1, (c_0 hg).2.1, i, rfl, ho, hi, h⟩
      · have e1 := Decidable.not_not.mp e1
        have : k = 1 := (kz 1 (by decide)).mp e1
        subst this
        have hoo : 0 ≤ o ∧ o ≤ 15 := by
          unfold factB at c
          rcases c with q | q | q
          · exact absurd q e0
          · exact q.2
          · exact absurd q.2.1 (by decide)
        obtain ⟨i, hi31, rfl⟩ := nI_of (i_not_lt.mpr hoo.1)
        have hi : i < 16 := by have := (nI_leI (b := 15) hi31 (by decide)).mp hoo.2; omega
        rw [nI_clamp hi31]
        refine ⟨c_0 hg, c_40 hg, okR hg (by decide) (by decide) rfl, vp_in_nI (n := i) (N := 16) hi (by decide), ?_⟩
        have hf := h M0 Sm.rf
        rw [told_get (w := nI 1) (Or.inr (Or.inl ⟨rfl, hoo⟩))] at hf
        unfold getA at hf
        rw [if_neg (by decide), if_pos e1, nI_clamp hi31, dv_0 M0 40 hi] at hf
        exact hf
      · have e0 := Decidable.not_not.mp e0
        refine ⟨c_0 hg, c_40 hg, ?_⟩
        have hf := h M0 Sm.rf
        rw [told_get (Or.inl e0)] at hf
        unfold getA at hf
        rw [if_pos e0] at hf
        exact hf
    · have c : ¬ factB (dn (dv M0 40)) w o := fun q => c (by unfold factB at q; simpa only [and_assoc] using q)
      subst hB6
      unfold BX5_told_6
      generalize hB68 : BX5_told_68 g Q (T_X5_isFact g) (T_X0_weigh g) (T_X5_toldOfSeam g) (T_X0_glad g) = B68
      simp only [T_X5_isFact, T_X0_weigh, T_X5_toldOfSeam, T_X0_glad, i_const, i_lconst, i_iload, i_aload, i_lload, i_istore, i_astore, i_lstore, i_iinc, i_bin, i_div, i_un, i_i2l, i_l2i, i_lbin, i_lcmp, i_if, i_icmp, i_dup, i_dup_x1, i_dup2, i_pop, i_geti, i_getr, i_getd, i_puti, i_putz, i_putd, i_iald, i_bald, i_aald, i_iast, i_bast, i_alen, i_keep, i_ret, i_retz, i_reta, i_retl, i_retv, i_callv, i_callk, i_calls, i_mm, i_copy, i_under, i_undld, i_ldcs, i_sw, q_swc0, q_swc1, q_lg0, q_lg1, q_lent0, q_lent1, lset, lset2, q_lins0, q_lins1, q_ldel0, q_ldel1, q_ldel20, q_ldel21, q_lkeep0, q_lkeep1, q_memb0, q_memb1, cat2, Nat.reduceBEq, decide_true, decide_false, decide_eq_true_eq, cond_true, cond_false, Bool.and_true, Bool.and_false, Bool.true_and, Bool.false_and, f_iadd, f_isub, f_imul, f_ishl, f_ishr, f_iushr, f_iand, f_ior, f_idiv, f_irem, f_ineg, f_i2b, f_i2s, f_ladd, f_lmul, c_eq, c_ne, c_lt, c_ge, c_gt, c_le, cc_eq, cc_ne, cc_lt, cc_ge, cc_gt, cc_le, rfo, aof, csum, Value.category, List.take, List.drop, List.reverse, List.reverseAux, List.map, List.sum_cons, List.sum_nil, List.cons_append, List.nil_append, Option.toList, List.mem_cons, List.not_mem_nil, List.length_cons, List.length_nil, reduceIte, Nat.reduceEqDiff, Nat.reduceAdd, Nat.reduceLeDiff, Nat.reduceLT, a_day, Nat.zero_ne_one, Nat.one_ne_zero, false_and, and_false, true_and, and_true, or_false, false_or, or_true, true_or, not_true_eq_false, not_false_eq_true, Nat.zero_add, Nat.add_zero, Nat.le_refl, Nat.lt_irrefl, Nat.zero_lt_succ, Nat.zero_le, forall_const, List.cons.injEq, Value.int.injEq, Value.ref.injEq, Value.long.injEq, and_assoc, exists_and_left, exists_eq_left']
      try simp only [forall_eq]
      have hf := h M0 Sm.rf
      rw [told_bad c] at hf
      exact ⟨fun z => z.elim, hf⟩
    
