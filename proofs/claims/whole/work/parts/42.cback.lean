/-! ===== the class: image, back, count, taken ===== -/
def T_X5_image (g : WG) (as : List Value) (M : MM) (Q : Option Value → MM → Prop) : Prop := as = [.ref 0] ∧ okD M 40 ∧ ∀ M', Sm (fun a b => XD 64 a b ∨ (a = 0 ∧ b = 7)) M M' → M' 0 7 = 1 → dv M' 64 = dv M 40 → Q (some (.int (M 40 6))) M'
set_option maxRecDepth 100000 in
set_option maxHeartbeats 1000000 in
theorem t_X5_image {l : Launch} {g : WG} (hg : Full g) : Ct l g yX5_image cX5_image 1 ((Option.some FieldType.int)) 3 (T_X5_image g) := by
  refine Ct.of (by decide) (fun as M Q h => ?_) (fun p e s m args below meth c as M Q h C => ?_)
  · obtain ⟨rfl, ho, h⟩ := h; exact ⟨by simp, by simp [Value.category]⟩
  · obtain ⟨rfl, ho, h⟩ := h
    refine s_of (fun lv st M0 hs => ?_) (WX5_image_0 C (t_X0_become hg) (by decide))
    obtain ⟨rfl, rfl, rfl⟩ := hs
    unfold BX5_image_0
    generalize hB11 : BX5_image_11 g Q (T_X0_become g) = B11
    simp only [T_X0_become, i_const, i_lconst, i_iload, i_aload, i_lload, i_istore, i_astore, i_lstore, i_iinc, i_bin, i_div, i_un, i_i2l, i_l2i, i_lbin, i_lcmp, i_if, i_icmp, i_dup, i_dup_x1, i_dup2, i_pop, i_geti, i_getr, i_getd, i_puti, i_putz, i_putd, i_iald, i_bald, i_aald, i_iast, i_bast, i_alen, i_keep, i_ret, i_retz, i_reta, i_retl, i_retv, i_callv, i_callk, i_calls, i_mm, i_copy, i_under, i_undld, i_ldcs, i_sw, q_swc0, q_swc1, q_lg0, q_lg1, q_lent0, q_lent1, lset, lset2, q_lins0, q_lins1, q_ldel0, q_ldel1, q_ldel20, q_ldel21, q_lkeep0, q_lkeep1, q_memb0, q_memb1, cat2, Nat.reduceBEq, decide_true, decide_false, decide_eq_true_eq, cond_true, cond_false, Bool.and_true, Bool.and_false, Bool.true_and, Bool.false_and, f_iadd, f_isub, f_imul, f_ishl, f_ishr, f_iushr, f_iand, f_ior, f_idiv, f_irem, f_ineg, f_i2b, f_i2s, f_ladd, f_lmul, c_eq, c_ne, c_lt, c_ge, c_gt, c_le, cc_eq, cc_ne, cc_lt, cc_ge, cc_gt, cc_le, rfo, aof, csum, Value.category, List.take, List.drop, List.reverse, List.reverseAux, List.map, List.sum_cons, List.sum_nil, List.cons_append, List.nil_append, Option.toList, List.mem_cons, List.not_mem_nil, List.length_cons, List.length_nil, reduceIte, Nat.reduceEqDiff, Nat.reduceAdd, Nat.reduceLeDiff, Nat.reduceLT, a_day, Nat.zero_ne_one, Nat.one_ne_zero, false_and, and_false, true_and, and_true, or_false, false_or, or_true, true_or, not_true_eq_false, not_false_eq_true, Nat.zero_add, Nat.add_zero, Nat.le_refl, Nat.lt_irrefl, Nat.zero_lt_succ, Nat.zero_le, forall_const, List.cons.injEq, Value.int.injEq, Value.ref.injEq, Value.long.injEq, and_assoc, exists_and_left, exists_eq_left']
    try simp only [forall_eq]
    refine ⟨c_0 hg, c_0 hg, (c_64 hg).1, (c_64 hg).2.1, D64, ho, fun M1 hs1 hd1 => ?_⟩
    subst hB11
    unfold BX5_image_11
    simp only [T_X0_become, i_const, i_lconst, i_iload, i_aload, i_lload, i_istore, i_astore, i_lstore, i_iinc, i_bin, i_div, i_un, i_i2l, i_l2i, i_lbin, i_lcmp, i_if, i_icmp, i_dup, i_dup_x1, i_dup2, i_pop, i_geti, i_getr, i_getd, i_puti, i_putz, i_putd, i_iald, i_bald, i_aald, i_iast, i_bast, i_alen, i_keep, i_ret, i_retz, i_reta, i_retl, i_retv, i_callv, i_callk, i_calls, i_mm, i_copy, i_under, i_undld, i_ldcs, i_sw, q_swc0, q_swc1, q_lg0, q_lg1, q_lent0, q_lent1, lset, lset2, q_lins0, q_lins1, q_ldel0, q_ldel1, q_ldel20, q_ldel21, q_lkeep0, q_lkeep1, q_memb0, q_memb1, cat2, Nat.reduceBEq, decide_true, decide_false, decide_eq_true_eq, cond_true, cond_false, Bool.and_true, Bool.and_false, Bool.true_and, Bool.false_and, f_iadd, f_isub, f_imul, f_ishl, f_ishr, f_iushr, f_iand, f_ior, f_idiv, f_irem, f_ineg, f_i2b, f_i2s, f_ladd, f_lmul, c_eq, c_ne, c_lt, c_ge, c_gt, c_le, cc_eq, cc_ne, cc_lt, cc_ge, cc_gt, cc_le, rfo, aof, csum, Value.category, List.take, List.drop, List.reverse, List.reverseAux, List.map, List.sum_cons, List.sum_nil, List.cons_append, List.nil_append, Option.toList, List.mem_cons, List.not_mem_nil, List.length_cons, List.length_nil, reduceIte, Nat.reduceEqDiff, Nat.reduceAdd, Nat.reduceLeDiff, Nat.reduceLT, a_day, Nat.zero_ne_one, Nat.one_ne_zero, false_and, and_false, true_and, and_true, or_false, false_or, or_true, true_or, not_true_eq_false, not_false_eq_true, Nat.zero_add, Nat.add_zero, Nat.le_refl, Nat.lt_irrefl, Nat.zero_lt_succ, Nat.zero_le, forall_const, List.cons.injEq, Value.int.injEq, Value.ref.injEq, Value.long.injEq, and_assoc, exists_and_left, exists_eq_left']
    try simp only [forall_eq]
    have e : mset M1 0 7 1 64 6 = M0 40 6 := by
      rw [ms_q (by decide)]
      have : dv M1 64 7 0 = dv M0 40 7 0 := by rw [hd1]
      exact this
    rw [e]
    refine ⟨c_0 hg, c_0 hg, c_64 hg, h _ ((hs1.mono fun a b q => Or.inl q).set _ (Or.inr ⟨rfl, rfl⟩)) (ms_s _ _ _ _) ?_⟩
    rw [← hd1]
    exact dv_sm (Y := fun a b => a = 0) (Sm.rf.set _ rfl) (fun j => by omega) (fun j hj => by omega) (fun s j hs => by omega) (by rw [hd1]; exact ho.n)
def T_X5_back (g : WG) (as : List Value) (M : MM) (Q : Option Value → MM → Prop) : Prop := as = [.ref 0] ∧ (M 0 7 = 0 → Q (some (.int (-3))) M) ∧ (¬ M 0 7 = 0 → okD M 64 ∧ ∀ M', Sm (XD 40) M M' → dv M' 40 = dv M 64 → Q (some (.int (M 64 6))) M')
set_option maxRecDepth 100000 in
set_option maxHeartbeats 1000000 in
theorem t_X5_back {l : Launch} {g : WG} (hg : Full g) : Ct l g yX5_back cX5_back 1 ((Option.some FieldType.int)) 3 (T_X5_back g) := by
  refine Ct.of (by decide) (fun as M Q h => ?_) (fun p e s m args below meth c as M Q h C => ?_)
  · obtain ⟨rfl, h0, h⟩ := h; exact ⟨by simp, by simp [Value.category]⟩
  · obtain ⟨rfl, h0, h⟩ := h
    refine s_of (fun lv st M0 hs => ?_) (WX5_back_0 C (t_X0_become hg) (by decide))
    obtain ⟨rfl, rfl, rfl⟩ := hs
    unfold BX5_back_0
    generalize hB21 : BX5_back_21 g Q (T_X0_become g) = B21
    simp only [T_X0_become, i_const, i_lconst, i_iload, i_aload, i_lload, i_istore, i_astore, i_lstore, i_iinc, i_bin, i_div, i_un, i_i2l, i_l2i, i_lbin, i_lcmp, i_if, i_icmp, i_dup, i_dup_x1, i_dup2, i_pop, i_geti, i_getr, i_getd, i_puti, i_putz, i_putd, i_iald, i_bald, i_aald, i_iast, i_bast, i_alen, i_keep, i_ret, i_retz, i_reta, i_retl, i_retv, i_callv, i_callk, i_calls, i_mm, i_copy, i_under, i_undld, i_ldcs, i_sw, q_swc0, q_swc1, q_lg0, q_lg1, q_lent0, q_lent1, lset, lset2, q_lins0, q_lins1, q_ldel0, q_ldel1, q_ldel20, q_ldel21, q_lkeep0, q_lkeep1, q_memb0, q_memb1, cat2, Nat.reduceBEq, decide_true, decide_false, decide_eq_true_eq, cond_true, cond_false, Bool.and_true, Bool.and_false, Bool.true_and, Bool.false_and, f_iadd, f_isub, f_imul, f_ishl, f_ishr, f_iushr, f_iand, f_ior, f_idiv, f_irem, f_ineg, f_i2b, f_i2s, f_ladd, f_lmul, c_eq, c_ne, c_lt, c_ge, c_gt, c_le, cc_eq, cc_ne, cc_lt, cc_ge, cc_gt, cc_le, rfo, aof, csum, Value.category, List.take, List.drop, List.reverse, List.reverseAux, List.map, List.sum_cons, List.sum_nil, List.cons_append, List.nil_append, Option.toList, List.mem_cons, List.not_mem_nil, List.length_cons, List.length_nil, reduceIte, Nat.reduceEqDiff, Nat.reduceAdd, Nat.reduceLeDiff, Nat.reduceLT, a_day, Nat.zero_ne_one, Nat.one_ne_zero, false_and, and_false, true_and, and_true, or_false, false_or, or_true, true_or, not_true_eq_false, not_false_eq_true, Nat.zero_add, Nat.add_zero, Nat.le_refl, Nat.lt_irrefl, Nat.zero_lt_succ, Nat.zero_le, forall_const, List.cons.injEq, Value.int.injEq, Value.ref.injEq, Value.long.injEq, and_assoc, exists_and_left, exists_eq_left']
    try simp only [forall_eq]
    refine ⟨c_0 hg, fun y => ?_, fun y => h0 (Decidable.not_not.mp y)⟩
    obtain ⟨ho, h⟩ := h y
    refine ⟨c_0 hg, c_0 hg, (c_40 hg).1, (c_40 hg).2.1, D40, ho, fun M1 hs1 hd1 => ?_⟩
    subst hB21
    unfold BX5_back_21
    simp only [T_X0_become, i_const, i_lconst, i_iload, i_aload, i_lload, i_istore, i_astore, i_lstore, i_iinc, i_bin, i_div, i_un, i_i2l, i_l2i, i_lbin, i_lcmp, i_if, i_icmp, i_dup, i_dup_x1, i_dup2, i_pop, i_geti, i_getr, i_getd, i_puti, i_putz, i_putd, i_iald, i_bald, i_aald, i_iast, i_bast, i_alen, i_keep, i_ret, i_retz, i_reta, i_retl, i_retv, i_callv, i_callk, i_calls, i_mm, i_copy, i_under, i_undld, i_ldcs, i_sw, q_swc0, q_swc1, q_lg0, q_lg1, q_lent0, q_lent1, lset, lset2, q_lins0, q_lins1, q_ldel0, q_ldel1, q_ldel20, q_ldel21, q_lkeep0, q_lkeep1, q_memb0, q_memb1, cat2, Nat.reduceBEq, decide_true, decide_false, decide_eq_true_eq, cond_true, cond_false, Bool.and_true, Bool.and_false, Bool.true_and, Bool.false_and, f_iadd, f_isub, f_imul, f_ishl, f_ishr, f_iushr, f_iand, f_ior, f_idiv, f_irem, f_ineg, f_i2b, f_i2s, f_ladd, f_lmul, c_eq, c_ne, c_lt, c_ge, c_gt, c_le, cc_eq, cc_ne, cc_lt, cc_ge, cc_gt, cc_le, rfo, aof, csum, Value.category, List.take, List.drop, List.reverse, List.reverseAux, List.map, List.sum_cons, List.sum_nil, List.cons_append, List.nil_append, Option.toList, List.mem_cons, List.not_mem_nil, List.length_cons, List.length_nil, reduceIte, Nat.reduceEqDiff, Nat.reduceAdd, Nat.reduceLeDiff, Nat.reduceLT, a_day, Nat.zero_ne_one, Nat.one_ne_zero, false_and, and_false, true_and, and_true, or_false, false_or, or_true, true_or, not_true_eq_false, not_false_eq_true, Nat.zero_add, Nat.add_zero, Nat.le_refl, Nat.lt_irrefl, Nat.zero_lt_succ, Nat.zero_le, forall_const, List.cons.injEq, Value.int.injEq, Value.ref.injEq, Value.long.injEq, and_assoc, exists_and_left, exists_eq_left']
    try simp only [forall_eq]
    have e : M1 40 6 = M0 64 6 := by
      have : dv M1 40 7 0 = dv M0 64 7 0 := by rw [hd1]
      exact this
    rw [e]
    exact ⟨c_0 hg, c_40 hg, h M1 hs1 hd1⟩
theorem and_nI (a b : Nat) : nI a &&& nI b = nI (a &&& b) := by
  apply Int32.toBitVec_inj.mp
  simp [nI]
def T_J6_bitCount_0f7a4 (g : WG) (as : List Value) (M : MM) (Q : Option Value → MM → Prop) : Prop := ∃ n, as = [.int (nI n)] ∧ n < 65536 ∧ Q (some (.int (nI (acn (fun h => n.testBit h) 16)))) M
set_option maxRecDepth 100000 in
set_option maxHeartbeats 1000000 in
theorem t_J6_bitCount_0f7a4 {l : Launch} {g : WG}  : Ct l g yJ6_bitCount_0f7a4 cJ6_bitCount_0f7a4 1 ((Option.some FieldType.int)) 1 (T_J6_bitCount_0f7a4 g) := by
  refine Ct.of (by decide) (fun as M Q h => ?_) (fun p e s m args below meth c as M Q h C => ?_)
  · obtain ⟨n, rfl, hn, h⟩ := h; exact ⟨by simp, by simp [Value.category]⟩
  · obtain ⟨n, rfl, hn, h⟩ := h
    refine s_of (fun lv st M0 hs => ?_) (WJ6_bitCount_0f7a4_0 C)
    obtain ⟨rfl, rfl, rfl⟩ := hs
    unfold BJ6_bitCount_0f7a4_0
    simp only [i_const, i_lconst, i_iload, i_aload, i_lload, i_istore, i_astore, i_lstore, i_iinc, i_bin, i_div, i_un, i_i2l, i_l2i, i_lbin, i_lcmp, i_if, i_icmp, i_dup, i_dup_x1, i_dup2, i_pop, i_geti, i_getr, i_getd, i_puti, i_putz, i_putd, i_iald, i_bald, i_aald, i_iast, i_bast, i_alen, i_keep, i_ret, i_retz, i_reta, i_retl, i_retv, i_callv, i_callk, i_calls, i_mm, i_copy, i_under, i_undld, i_ldcs, i_sw, q_swc0, q_swc1, q_lg0, q_lg1, q_lent0, q_lent1, lset, lset2, q_lins0, q_lins1, q_ldel0, q_ldel1, q_ldel20, q_ldel21, q_lkeep0, q_lkeep1, q_memb0, q_memb1, cat2, Nat.reduceBEq, decide_true, decide_false, decide_eq_true_eq, cond_true, cond_false, Bool.and_true, Bool.and_false, Bool.true_and, Bool.false_and, f_iadd, f_isub, f_imul, f_ishl, f_ishr, f_iushr, f_iand, f_ior, f_idiv, f_irem, f_ineg, f_i2b, f_i2s, f_ladd, f_lmul, c_eq, c_ne, c_lt, c_ge, c_gt, c_le, cc_eq, cc_ne, cc_lt, cc_ge, cc_gt, cc_le, rfo, aof, csum, Value.category, List.take, List.drop, List.reverse, List.reverseAux, List.map, List.sum_cons, List.sum_nil, List.cons_append, List.nil_append, Option.toList, List.mem_cons, List.not_mem_nil, List.length_cons, List.length_nil, reduceIte, Nat.reduceEqDiff, Nat.reduceAdd, Nat.reduceLeDiff, Nat.reduceLT, a_day, Nat.zero_ne_one, Nat.one_ne_zero, false_and, and_false, true_and, and_true, or_false, false_or, or_true, true_or, not_true_eq_false, not_false_eq_true, Nat.zero_add, Nat.add_zero, Nat.le_refl, Nat.lt_irrefl, Nat.zero_lt_succ, Nat.zero_le, forall_const, List.cons.injEq, Value.int.injEq, Value.ref.injEq, Value.long.injEq, and_assoc, exists_and_left, exists_eq_left']
    try simp only [forall_eq]
    have hp := Nat.eq_of_beq_eq_true (bc_all n hn)
    rw [ppN_acn] at hp
    rw [← hp] at h
    have e1 : (1431655765 : Int32) = nI 1431655765 := rfl
    have e2 : (858993459 : Int32) = nI 858993459 := rfl
    have e3 : (252645135 : Int32) = nI 252645135 := rfl
    have e4 : (63 : Int32) = nI 63 := rfl
    rw [e1, e2, e3, e4]
    have l1 : (n / 2) &&& 1431655765 ≤ n / 2 := Nat.and_le_left
    rw [pk_ushrN (n := n) (by omega) 1 1 (by decide), and_nI, Nat.pow_one, pk_sub (by omega)]
    obtain ⟨a, ha⟩ : ∃ a, n - ((n / 2) &&& 1431655765) = a := ⟨_, rfl⟩
    have ha' : bcA n = a := ha
    rw [ha'] at h
    rw [ha]
    have la : a < 65536 := by omega
    rw [pk_ushrN (n := a) (by omega) 2 2 (by decide), and_nI, and_nI, nI_add, show (2 : Nat) ^ 2 = 4 from rfl]
    have l2 : a &&& 858993459 ≤ a := Nat.and_le_left
    have l3 : (a / 4) &&& 858993459 ≤ a / 4 := Nat.and_le_left
    obtain ⟨b, hb⟩ : ∃ b, (a &&& 858993459) + ((a / 4) &&& 858993459) = b := ⟨_, rfl⟩
    have hb' : bcB a = b := hb
    rw [hb'] at h
    rw [hb]
    have lb : b < 131072 := by omega
    rw [pk_ushrN (n := b) (by omega) 4 4 (by decide), nI_add, and_nI, show (2 : Nat) ^ 4 = 16 from rfl]
    have l4 : (b + b / 16) &&& 252645135 ≤ b + b / 16 := Nat.and_le_left
    obtain ⟨c1, hc⟩ : ∃ c, (b + b / 16) &&& 252645135 = c := ⟨_, rfl⟩
    have hc' : bcC b = c1 := hc
    rw [hc'] at h
    rw [hc]
    have lc : c1 < 262144 := by omega
    rw [pk_ushrN (n := c1) (by omega) 8 8 (by decide), nI_add, show (2 : Nat) ^ 8 = 256 from rfl]
    obtain ⟨d1, hd⟩ : ∃ d, c1 + c1 / 256 = d := ⟨_, rfl⟩
    have hd' : bcD c1 = d1 := hd
    rw [hd'] at h
    rw [hd]
    rw [pk_ushrN (n := d1) (by omega) 16 16 (by decide), nI_add, and_nI, show (2 : Nat) ^ 16 = 65536 from rfl]
    exact h
theorem acn_not (p : Nat → Bool) : ∀ n, acn (fun h => !p h) n + acn p n = n
  | 0 => rfl
  | n + 1 => by
    have := acn_not p n
    simp only [acn]
    by_cases h : p n = true
    · simp [h]; omega
    · simp [h]; omega
theorem acn_c {p q : Nat → Bool} : ∀ {n : Nat}, (∀ h, h < n → p h = q h) → acn p n = acn q n
  | 0, _ => rfl
  | n + 1, h => by simp only [acn]; rw [h n (by omega), acn_c (fun j hj => h j (by omega))]
def T_X5_count (g : WG) (as : List Value) (M : MM) (Q : Option Value → MM → Prop) : Prop := ∃ w t, as = [.ref 0, .int w] ∧ okD M 40 ∧ M 40 4 = nI (8 + 4 * t) ∧ t < 6 ∧ Q (some (.int (cotA (dv M 40) (M 0 6) (M 3 4) (M (8 + 4 * t) 0) w))) M
set_option maxRecDepth 100000 in
set_option maxHeartbeats 1000000 in
theorem t_X5_count {l : Launch} {g : WG} (hg : Full g) : Ct l g yX5_count cX5_count 2 ((Option.some FieldType.int)) 3 (T_X5_count g) := by
  refine Ct.of (by decide) (fun as M Q h => ?_) (fun p e s m args below meth c as M Q h C => ?_)
  · obtain ⟨w, t, rfl, ho, h4, ht, h⟩ := h; exact ⟨by simp, by simp [Value.category]⟩
  · obtain ⟨w, t, rfl, ho, h4, ht, h⟩ := h
    have hn := ho.n
    have hmany := ho.many
    obtain ⟨-, Tn, hwf, htx⟩ := id ho
    have hrd : rdv (M 40 4) = .ref (8 + 4 * t) := by rw [h4]; exact rdv_n (by omega)
    have tok := text_ok (g := g) (r := 8 + 4 * t) (fun q a b => hg q (by omega) (by omega)) ⟨t, ht, rfl⟩
    refine s_of (fun lv st M0 hs => ?_) (WX5_count_0 C (t_X0_whole hg) (by decide) (t_X0_goneHours hg) (by decide) (t_J6_bitCount_0f7a4) (by decide))
    obtain ⟨rfl, rfl, rfl⟩ := hs
    unfold BX5_count_0
    generalize hB73 : BX5_count_73 g Q (T_X0_whole g) (T_X0_goneHours g) (T_J6_bitCount_0f7a4 g) = B73
    simp only [T_X0_whole, T_X0_goneHours, T_J6_bitCount_0f7a4, i_const, i_lconst, i_iload, i_aload, i_lload, i_istore, i_astore, i_lstore, i_iinc, i_bin, i_div, i_un, i_i2l, i_l2i, i_lbin, i_lcmp, i_if, i_icmp, i_dup, i_dup_x1, i_dup2, i_pop, i_geti, i_getr, i_getd, i_puti, i_putz, i_putd, i_iald, i_bald, i_aald, i_iast, i_bast, i_alen, i_keep, i_ret, i_retz, i_reta, i_retl, i_retv, i_callv, i_callk, i_calls, i_mm, i_copy, i_under, i_undld, i_ldcs, i_sw, q_swc0, q_swc1, q_lg0, q_lg1, q_lent0, q_lent1, lset, lset2, q_lins0, q_lins1, q_ldel0, q_ldel1, q_ldel20, q_ldel21, q_lkeep0, q_lkeep1, q_memb0, q_memb1, cat2, Nat.reduceBEq, decide_true, decide_false, decide_eq_true_eq, cond_true, cond_false, Bool.and_true, Bool.and_false, Bool.true_and, Bool.false_and, f_iadd, f_isub, f_imul, f_ishl, f_ishr, f_iushr, f_iand, f_ior, f_idiv, f_irem, f_ineg, f_i2b, f_i2s, f_ladd, f_lmul, c_eq, c_ne, c_lt, c_ge, c_gt, c_le, cc_eq, cc_ne, cc_lt, cc_ge, cc_gt, cc_le, rfo, aof, csum, Value.category, List.take, List.drop, List.reverse, List.reverseAux, List.map, List.sum_cons, List.sum_nil, List.cons_append, List.nil_append, Option.toList, List.mem_cons, List.not_mem_nil, List.length_cons, List.length_nil, reduceIte, Nat.reduceEqDiff, Nat.reduceAdd, Nat.reduceLeDiff, Nat.reduceLT, a_day, Nat.zero_ne_one, Nat.one_ne_zero, false_and, and_false, true_and, and_true, or_false, false_or, or_true, true_or, not_true_eq_false, not_false_eq_true, Nat.zero_add, Nat.add_zero, Nat.le_refl, Nat.lt_irrefl, Nat.zero_lt_succ, Nat.zero_le, forall_const, List.cons.injEq, Value.int.injEq, Value.ref.injEq, Value.long.injEq, and_assoc, exists_and_left, exists_eq_left']
    try simp only [forall_eq]
    unfold cotA at h
    have d70 : dv M0 40 7 0 = M0 40 6 := rfl
    rw [d70] at h
    refine ⟨fun e0 => ?_, fun e0 => ⟨fun e1 => ?_, fun e1 => ⟨fun e2 => ?_, fun e2 => ⟨fun e3 => ?_, fun e3 => ⟨fun e4 => ?_, fun e4 => ⟨fun e5 => ?_, fun e5 => ?_⟩⟩⟩⟩⟩⟩
    · rw [if_pos e0] at h
      exact ⟨c_0 hg, c_40 hg, h⟩
    · rw [if_neg e0, if_pos e1] at h
      exact ⟨c_0 hg, c_40 hg, c_0 hg, (c_40 hg).1, (c_40 hg).2.1, D40, hmany, hn, h⟩
    · rw [if_neg e0, if_neg e1, if_pos e2] at h
      refine ⟨c_0 hg, (c_40 hg).1, (c_40 hg).2.1, ho, ?_⟩
      subst hB73
      unfold BX5_count_73
      simp only [T_X0_whole, T_X0_goneHours, T_J6_bitCount_0f7a4, i_const, i_lconst, i_iload, i_aload, i_lload, i_istore, i_astore, i_lstore, i_iinc, i_bin, i_div, i_un, i_i2l, i_l2i, i_lbin, i_lcmp, i_if, i_icmp, i_dup, i_dup_x1, i_dup2, i_pop, i_geti, i_getr, i_getd, i_puti, i_putz, i_putd, i_iald, i_bald, i_aald, i_iast, i_bast, i_alen, i_keep, i_ret, i_retz, i_reta, i_retl, i_retv, i_callv, i_callk, i_calls, i_mm, i_copy, i_under, i_undld, i_ldcs, i_sw, q_swc0, q_swc1, q_lg0, q_lg1, q_lent0, q_lent1, lset, lset2, q_lins0, q_lins1, q_ldel0, q_ldel1, q_ldel20, q_ldel21, q_lkeep0, q_lkeep1, q_memb0, q_memb1, cat2, Nat.reduceBEq, decide_true, decide_false, decide_eq_true_eq, cond_true, cond_false, Bool.and_true, Bool.and_false, Bool.true_and, Bool.false_and, f_iadd, f_isub, f_imul, f_ishl, f_ishr, f_iushr, f_iand, f_ior, f_idiv, f_irem, f_ineg, f_i2b, f_i2s, f_ladd, f_lmul, c_eq, c_ne, c_lt, c_ge, c_gt, c_le, cc_eq, cc_ne, cc_lt, cc_ge, cc_gt, cc_le, rfo, aof, csum, Value.category, List.take, List.drop, List.reverse, List.reverseAux, List.map, List.sum_cons, List.sum_nil, List.cons_append, List.nil_append, Option.toList, List.mem_cons, List.not_mem_nil, List.length_cons, List.length_nil, reduceIte, Nat.reduceEqDiff, Nat.reduceAdd, Nat.reduceLeDiff, Nat.reduceLT, a_day, Nat.zero_ne_one, Nat.one_ne_zero, false_and, and_false, true_and, and_true, or_false, false_or, or_true, true_or, not_true_eq_false, not_false_eq_true, Nat.zero_add, Nat.add_zero, Nat.le_refl, Nat.lt_irrefl, Nat.zero_lt_succ, Nat.zero_le, forall_const, List.cons.injEq, Value.int.injEq, Value.ref.injEq, Value.long.injEq, and_assoc, exists_and_left, exists_eq_left']
      try simp only [forall_eq]
      refine ⟨gmk (dv M0 40) (dn (dv M0 40)), rfl, gmk_16 hwf, ?_⟩
      have e : acn (fun h => (gmk (dv M0 40) (dn (dv M0 40))).testBit h) 16 = acn (gon (dv M0 40)) 16 := acn_c (fun j hj => gon_bit hwf hj)
      have e' := acn_not (gon (dv M0 40)) 16
      rw [e, show (16 : Int32) = nI 16 from rfl, pk_sub (by omega), show 16 - acn (gon (dv M0 40)) 16 = acn (fun h => !gon (dv M0 40) h) 16 by omega]
      exact h
    · rw [if_neg e0, if_neg e1, if_neg e2, if_pos e3] at h
      exact ⟨c_0 hg, h⟩
    · rw [if_neg e0, if_neg e1, if_neg e2, if_neg e3, if_pos e4] at h
      exact ⟨c_0 hg, okR hg (by decide) (by decide) rfl, h⟩
    · rw [if_neg e0, if_neg e1, if_neg e2, if_neg e3, if_neg e4, if_pos e5] at h
      rw [hrd]
      refine ⟨c_0 hg, c_40 hg, ?_⟩
      simp only [i_const, i_lconst, i_iload, i_aload, i_lload, i_istore, i_astore, i_lstore, i_iinc, i_bin, i_div, i_un, i_i2l, i_l2i, i_lbin, i_lcmp, i_if, i_icmp, i_dup, i_dup_x1, i_dup2, i_pop, i_geti, i_getr, i_getd, i_puti, i_putz, i_putd, i_iald, i_bald, i_aald, i_iast, i_bast, i_alen, i_keep, i_ret, i_retz, i_reta, i_retl, i_retv, i_callv, i_callk, i_calls, i_mm, i_copy, i_under, i_undld, i_ldcs, i_sw, q_swc0, q_swc1, q_lg0, q_lg1, q_lent0, q_lent1, lset, lset2, q_lins0, q_lins1, q_ldel0, q_ldel1, q_ldel20, q_ldel21, q_lkeep0, q_lkeep1, q_memb0, q_memb1, cat2, Nat.reduceBEq, decide_true, decide_false, decide_eq_true_eq, cond_true, cond_false, Bool.and_true, Bool.and_false, Bool.true_and, Bool.false_and, f_iadd, f_isub, f_imul, f_ishl, f_ishr, f_iushr, f_iand, f_ior, f_idiv, f_irem, f_ineg, f_i2b, f_i2s, f_ladd, f_lmul, c_eq, c_ne, c_lt, c_ge, c_gt, c_le, cc_eq, cc_ne, cc_lt, cc_ge, cc_gt, cc_le, rfo, aof, csum, Value.category, List.take, List.drop, List.reverse, List.reverseAux, List.map, List.sum_cons, List.sum_nil, List.cons_append, List.nil_append, Option.toList, List.mem_cons, List.not_mem_nil, List.length_cons, List.length_nil, reduceIte, Nat.reduceEqDiff, Nat.reduceAdd, Nat.reduceLeDiff, Nat.reduceLT, a_day, Nat.zero_ne_one, Nat.one_ne_zero, false_and, and_false, true_and, and_true, or_false, false_or, or_true, true_or, not_true_eq_false, not_false_eq_true, Nat.zero_add, Nat.add_zero, Nat.le_refl, Nat.lt_irrefl, Nat.zero_lt_succ, Nat.zero_le, forall_const, List.cons.injEq, Value.int.injEq, Value.ref.injEq, Value.long.injEq, and_assoc, exists_and_left, exists_eq_left', forall_eq]
      exact ⟨tok.1, h⟩
    · rw [if_neg e0, if_neg e1, if_neg e2, if_neg e3, if_neg e4, if_neg e5] at h
      exact h
def undN (u : Nat) : Nat := if u = 3 then 1 else if u = 4 then 2 else 0
theorem und_0 : undV 0 = -1 := by decide
theorem und_5 : ∀ u, u < 6 → 0 < u → undV u = nI (undN u) := by decide
def T_X5_isUnder (g : WG) (as : List Value) (M : MM) (Q : Option Value → MM → Prop) : Prop := ∃ u k, as = [.int (nI u), .int (nI k)] ∧ u < 6 ∧ k < 6 ∧ (unN u k → Q (some (.int 1)) M) ∧ (¬ unN u k → Q (some (.int 0)) M)
set_option maxRecDepth 100000 in
set_option maxHeartbeats 1000000 in
theorem t_X5_isUnder {l : Launch} {g : WG} (hg : Full g) : Ct l g yX5_isUnder cX5_isUnder 4 ((Option.some FieldType.boolean)) 2 (T_X5_isUnder g) := by
  refine Ct.of (by decide) (fun as M Q h => ?_) (fun p e s m args below meth c as M Q h C => ?_)
  · obtain ⟨u0, k, rfl, hu0, hk, h1, h0⟩ := h; exact ⟨by simp, by simp [Value.category]⟩
  · obtain ⟨u0, k, rfl, hu0, hk, h1, h0⟩ := h
    obtain ⟨I4, hI4⟩ : ∃ I : Nat → PP, I = (fun n lv st M' => M' = M ∧ ∃ i x, lv = [(1, .int (nI k)), (2, .int x), (3, .int (nI i))] ∧ st = [] ∧ n + i = 6 ∧ ((x = -1 ∧ i ≤ 3 ∧ ¬ unN u0 k) ∨ (∃ u, u < 6 ∧ x = nI u ∧ (unN u k ↔ unN u0 k) ∧ i + (if u = 0 then 0 else if u = 3 ∨ u = 4 then 2 else 1) ≤ 2))) := ⟨_, rfl⟩
    obtain ⟨E4, hE4⟩ : ∃ E : PP, E = (fun lv st M => ∃ n, I4 n lv st M) := ⟨_, rfl⟩
    have iE4 : ∀ n lv st M, I4 n lv st M → E4 lv st M := fun n lv st M h => by rw [hE4]; exact ⟨n, h⟩
    have L4 : Sj p l e 2 s m args below meth c 4 g (MQ below (cQc g Q) args s 0 0 (gA g)) 4 E4 := by
      rw [hE4]
      refine s_ex (s_loop I4 (fun K4 k4 => WX5_isUnder_4 C (t_X5_isKind hg) (by decide) k4) ?_)
      intro n lv st M1 K4 hK4 hI; rw [hI4] at hI; obtain ⟨rfl, i, x, rfl, rfl, hi, hor⟩ := hI
      unfold BX5_isUnder_4
      generalize hB14 : BX5_isUnder_14 g Q (T_X5_isKind g) K4 = B14
      simp only [T_X5_isKind, i_const, i_lconst, i_iload, i_aload, i_lload, i_istore, i_astore, i_lstore, i_iinc, i_bin, i_div, i_un, i_i2l, i_l2i, i_lbin, i_lcmp, i_if, i_icmp, i_dup, i_dup_x1, i_dup2, i_pop, i_geti, i_getr, i_getd, i_puti, i_putz, i_putd, i_iald, i_bald, i_aald, i_iast, i_bast, i_alen, i_keep, i_ret, i_retz, i_reta, i_retl, i_retv, i_callv, i_callk, i_calls, i_mm, i_copy, i_under, i_undld, i_ldcs, i_sw, q_swc0, q_swc1, q_lg0, q_lg1, q_lent0, q_lent1, lset, lset2, q_lins0, q_lins1, q_ldel0, q_ldel1, q_ldel20, q_ldel21, q_lkeep0, q_lkeep1, q_memb0, q_memb1, cat2, Nat.reduceBEq, decide_true, decide_false, decide_eq_true_eq, cond_true, cond_false, Bool.and_true, Bool.and_false, Bool.true_and, Bool.false_and, f_iadd, f_isub, f_imul, f_ishl, f_ishr, f_iushr, f_iand, f_ior, f_idiv, f_irem, f_ineg, f_i2b, f_i2s, f_ladd, f_lmul, c_eq, c_ne, c_lt, c_ge, c_gt, c_le, cc_eq, cc_ne, cc_lt, cc_ge, cc_gt, cc_le, rfo, aof, csum, Value.category, List.take, List.drop, List.reverse, List.reverseAux, List.map, List.sum_cons, List.sum_nil, List.cons_append, List.nil_append, Option.toList, List.mem_cons, List.not_mem_nil, List.length_cons, List.length_nil, reduceIte, Nat.reduceEqDiff, Nat.reduceAdd, Nat.reduceLeDiff, Nat.reduceLT, a_day, Nat.zero_ne_one, Nat.one_ne_zero, false_and, and_false, true_and, and_true, or_false, false_or, or_true, true_or, not_true_eq_false, not_false_eq_true, Nat.zero_add, Nat.add_zero, Nat.le_refl, Nat.lt_irrefl, Nat.zero_lt_succ, Nat.zero_le, forall_const, List.cons.injEq, Value.int.injEq, Value.ref.injEq, Value.long.injEq, and_assoc, exists_and_left, exists_eq_left']
      try simp only [forall_eq]
      have hi3 : i ≤ 3 := by
        rcases hor with ⟨-, q, -⟩ | ⟨u, -, -, -, hc⟩ <;> omega
      rw [show (6 : Int32) = nI 6 from rfl, nI_leI (by decide) (by omega)]
      refine ⟨fun z => by omega, fun z => ?_⟩
      rcases hor with ⟨ex, -, q⟩ | ⟨u, hu, ex, he, hc⟩
      · rw [ex, b2i_f (by decide)]
        subst hB14
        unfold BX5_isUnder_14
        simp only [T_X5_isKind, i_const, i_lconst, i_iload, i_aload, i_lload, i_istore, i_astore, i_lstore, i_iinc, i_bin, i_div, i_un, i_i2l, i_l2i, i_lbin, i_lcmp, i_if, i_icmp, i_dup, i_dup_x1, i_dup2, i_pop, i_geti, i_getr, i_getd, i_puti, i_putz, i_putd, i_iald, i_bald, i_aald, i_iast, i_bast, i_alen, i_keep, i_ret, i_retz, i_reta, i_retl, i_retv, i_callv, i_callk, i_calls, i_mm, i_copy, i_under, i_undld, i_ldcs, i_sw, q_swc0, q_swc1, q_lg0, q_lg1, q_lent0, q_lent1, lset, lset2, q_lins0, q_lins1, q_ldel0, q_ldel1, q_ldel20, q_ldel21, q_lkeep0, q_lkeep1, q_memb0, q_memb1, cat2, Nat.reduceBEq, decide_true, decide_false, decide_eq_true_eq, cond_true, cond_false, Bool.and_true, Bool.and_false, Bool.true_and, Bool.false_and, f_iadd, f_isub, f_imul, f_ishl, f_ishr, f_iushr, f_iand, f_ior, f_idiv, f_irem, f_ineg, f_i2b, f_i2s, f_ladd, f_lmul, c_eq, c_ne, c_lt, c_ge, c_gt, c_le, cc_eq, cc_ne, cc_lt, cc_ge, cc_gt, cc_le, rfo, aof, csum, Value.category, List.take, List.drop, List.reverse, List.reverseAux, List.map, List.sum_cons, List.sum_nil, List.cons_append, List.nil_append, Option.toList, List.mem_cons, List.not_mem_nil, List.length_cons, List.length_nil, reduceIte, Nat.reduceEqDiff, Nat.reduceAdd, Nat.reduceLeDiff, Nat.reduceLT, a_day, Nat.zero_ne_one, Nat.one_ne_zero, false_and, and_false, true_and, and_true, or_false, false_or, or_true, true_or, not_true_eq_false, not_false_eq_true, Nat.zero_add, Nat.add_zero, Nat.le_refl, Nat.lt_irrefl, Nat.zero_lt_succ, Nat.zero_le, forall_const, List.cons.injEq, Value.int.injEq, Value.ref.injEq, Value.long.injEq, and_assoc, exists_and_left, exists_eq_left']
        try simp only [forall_eq]
        exact ⟨h0 q, fun z => z.elim⟩
      · rw [ex, b2i_t ⟨nI_pos' (by omega), (nI_ltI (b := 6) (by omega) (by decide)).mpr hu⟩]
        subst hB14
        unfold BX5_isUnder_14
        simp only [T_X5_isKind, i_const, i_lconst, i_iload, i_aload, i_lload, i_istore, i_astore, i_lstore, i_iinc, i_bin, i_div, i_un, i_i2l, i_l2i, i_lbin, i_lcmp, i_if, i_icmp, i_dup, i_dup_x1, i_dup2, i_pop, i_geti, i_getr, i_getd, i_puti, i_putz, i_putd, i_iald, i_bald, i_aald, i_iast, i_bast, i_alen, i_keep, i_ret, i_retz, i_reta, i_retl, i_retv, i_callv, i_callk, i_calls, i_mm, i_copy, i_under, i_undld, i_ldcs, i_sw, q_swc0, q_swc1, q_lg0, q_lg1, q_lent0, q_lent1, lset, lset2, q_lins0, q_lins1, q_ldel0, q_ldel1, q_ldel20, q_ldel21, q_lkeep0, q_lkeep1, q_memb0, q_memb1, cat2, Nat.reduceBEq, decide_true, decide_false, decide_eq_true_eq, cond_true, cond_false, Bool.and_true, Bool.and_false, Bool.true_and, Bool.false_and, f_iadd, f_isub, f_imul, f_ishl, f_ishr, f_iushr, f_iand, f_ior, f_idiv, f_irem, f_ineg, f_i2b, f_i2s, f_ladd, f_lmul, c_eq, c_ne, c_lt, c_ge, c_gt, c_le, cc_eq, cc_ne, cc_lt, cc_ge, cc_gt, cc_le, rfo, aof, csum, Value.category, List.take, List.drop, List.reverse, List.reverseAux, List.map, List.sum_cons, List.sum_nil, List.cons_append, List.nil_append, Option.toList, List.mem_cons, List.not_mem_nil, List.length_cons, List.length_nil, reduceIte, Nat.reduceEqDiff, Nat.reduceAdd, Nat.reduceLeDiff, Nat.reduceLT, a_day, Nat.zero_ne_one, Nat.one_ne_zero, false_and, and_false, true_and, and_true, or_false, false_or, or_true, true_or, not_true_eq_false, not_false_eq_true, Nat.zero_add, Nat.add_zero, Nat.le_refl, Nat.lt_irrefl, Nat.zero_lt_succ, Nat.zero_le, forall_const, List.cons.injEq, Value.int.injEq, Value.ref.injEq, Value.long.injEq, and_assoc, exists_and_left, exists_eq_left']
        try simp only [forall_eq]
        rw [nI_eq (by omega) (by omega), nI_clamp (by omega), nI_1]
        refine ⟨fun z => absurd z (by decide), fun _ => ⟨fun y => ⟨vp_in_nI hu (by decide), ?_⟩, fun y => h1 (he.mp (Or.inl (Decidable.not_not.mp y)))⟩⟩
        refine hK4 (n - 1) _ _ _ (by omega) ?_
        rw [hI4]
        refine ⟨rfl, i + 1, _, rfl, rfl, by omega, ?_⟩
        rcases Nat.eq_zero_or_pos u with u0' | u0'
        · refine Or.inl ⟨by rw [u0']; exact und_0, by omega, ?_⟩
          rw [← he, u0']
          unfold unN
          omega
        · refine Or.inr ⟨undN u, ?_, und_5 u hu u0', ?_, ?_⟩
          · unfold undN; split
            · decide
            · split <;> decide
          · rw [← he]
            unfold unN undN
            split
            · omega
            · split <;> omega
          · unfold undN
            by_cases e3 : u = 3
            · subst e3; simp at hc ⊢; omega
            · by_cases e4 : u = 4
              · subst e4; simp at hc ⊢; omega
              · rw [if_neg e3, if_neg e4, if_pos rfl]
                rw [if_neg (by omega), if_neg (by omega)] at hc
                omega
    refine s_of (fun lv st M0 hs => ?_) (WX5_isUnder_0 C (t_X5_isKind hg) (by decide) L4)
    obtain ⟨rfl, rfl, rfl⟩ := hs
    unfold BX5_isUnder_0
    simp only [T_X5_isKind, i_const, i_lconst, i_iload, i_aload, i_lload, i_istore, i_astore, i_lstore, i_iinc, i_bin, i_div, i_un, i_i2l, i_l2i, i_lbin, i_lcmp, i_if, i_icmp, i_dup, i_dup_x1, i_dup2, i_pop, i_geti, i_getr, i_getd, i_puti, i_putz, i_putd, i_iald, i_bald, i_aald, i_iast, i_bast, i_alen, i_keep, i_ret, i_retz, i_reta, i_retl, i_retv, i_callv, i_callk, i_calls, i_mm, i_copy, i_under, i_undld, i_ldcs, i_sw, q_swc0, q_swc1, q_lg0, q_lg1, q_lent0, q_lent1, lset, lset2, q_lins0, q_lins1, q_ldel0, q_ldel1, q_ldel20, q_ldel21, q_lkeep0, q_lkeep1, q_memb0, q_memb1, cat2, Nat.reduceBEq, decide_true, decide_false, decide_eq_true_eq, cond_true, cond_false, Bool.and_true, Bool.and_false, Bool.true_and, Bool.false_and, f_iadd, f_isub, f_imul, f_ishl, f_ishr, f_iushr, f_iand, f_ior, f_idiv, f_irem, f_ineg, f_i2b, f_i2s, f_ladd, f_lmul, c_eq, c_ne, c_lt, c_ge, c_gt, c_le, cc_eq, cc_ne, cc_lt, cc_ge, cc_gt, cc_le, rfo, aof, csum, Value.category, List.take, List.drop, List.reverse, List.reverseAux, List.map, List.sum_cons, List.sum_nil, List.cons_append, List.nil_append, Option.toList, List.mem_cons, List.not_mem_nil, List.length_cons, List.length_nil, reduceIte, Nat.reduceEqDiff, Nat.reduceAdd, Nat.reduceLeDiff, Nat.reduceLT, a_day, Nat.zero_ne_one, Nat.one_ne_zero, false_and, and_false, true_and, and_true, or_false, false_or, or_true, true_or, not_true_eq_false, not_false_eq_true, Nat.zero_add, Nat.add_zero, Nat.le_refl, Nat.lt_irrefl, Nat.zero_lt_succ, Nat.zero_le, forall_const, List.cons.injEq, Value.int.injEq, Value.ref.injEq, Value.long.injEq, and_assoc, exists_and_left, exists_eq_left']
    try simp only [forall_eq]
    refine iE4 6 _ _ _ ?_
    rw [hI4]
    refine ⟨rfl, 0, nI u0, rfl, rfl, rfl, Or.inr ⟨u0, hu0, rfl, Iff.rfl, ?_⟩⟩
    split
    · omega
    · split <;> omega
def T_X5_taken (g : WG) (as : List Value) (M : MM) (Q : Option Value → MM → Prop) : Prop := ∃ s k, as = [.ref 0, .int s, .int k] ∧ okD M 40 ∧ Q (some (.int (takA (dv M 40) s k))) M
set_option maxRecDepth 100000 in
set_option maxHeartbeats 1000000 in
theorem t_X5_taken {l : Launch} {g : WG} (hg : Full g) : Ct l g yX5_taken cX5_taken 4 ((Option.some FieldType.int)) 3 (T_X5_taken g) := by
  refine Ct.of (by decide) (fun as M Q h => ?_) (fun p e s m args below meth c as M Q h C => ?_)
  · obtain ⟨s0, k0, rfl, ho, h⟩ := h; exact ⟨by simp, by simp [Value.category]⟩
  · obtain ⟨s0, k0, rfl, ho, h⟩ := h
    have hn := ho.n
    have hmany := ho.many
    refine s_of (fun lv st M0 hs => ?_) (WX5_taken_0 C (t_X5_isKind hg) (by decide) (t_X5_isSeam hg) (by decide) (t_X5_isUnder hg) (by decide))
    obtain ⟨rfl, rfl, rfl⟩ := hs
    unfold BX5_taken_0
    generalize hB4 : BX5_taken_4 g Q (T_X5_isKind g) (T_X5_isSeam g) (T_X5_isUnder g) = B4
    simp only [T_X5_isKind, T_X5_isSeam, T_X5_isUnder, i_const, i_lconst, i_iload, i_aload, i_lload, i_istore, i_astore, i_lstore, i_iinc, i_bin, i_div, i_un, i_i2l, i_l2i, i_lbin, i_lcmp, i_if, i_icmp, i_dup, i_dup_x1, i_dup2, i_pop, i_geti, i_getr, i_getd, i_puti, i_putz, i_putd, i_iald, i_bald, i_aald, i_iast, i_bast, i_alen, i_keep, i_ret, i_retz, i_reta, i_retl, i_retv, i_callv, i_callk, i_calls, i_mm, i_copy, i_under, i_undld, i_ldcs, i_sw, q_swc0, q_swc1, q_lg0, q_lg1, q_lent0, q_lent1, lset, lset2, q_lins0, q_lins1, q_ldel0, q_ldel1, q_ldel20, q_ldel21, q_lkeep0, q_lkeep1, q_memb0, q_memb1, cat2, Nat.reduceBEq, decide_true, decide_false, decide_eq_true_eq, cond_true, cond_false, Bool.and_true, Bool.and_false, Bool.true_and, Bool.false_and, f_iadd, f_isub, f_imul, f_ishl, f_ishr, f_iushr, f_iand, f_ior, f_idiv, f_irem, f_ineg, f_i2b, f_i2s, f_ladd, f_lmul, c_eq, c_ne, c_lt, c_ge, c_gt, c_le, cc_eq, cc_ne, cc_lt, cc_ge, cc_gt, cc_le, rfo, aof, csum, Value.category, List.take, List.drop, List.reverse, List.reverseAux, List.map, List.sum_cons, List.sum_nil, List.cons_append, List.nil_append, Option.toList, List.mem_cons, List.not_mem_nil, List.length_cons, List.length_nil, reduceIte, Nat.reduceEqDiff, Nat.reduceAdd, Nat.reduceLeDiff, Nat.reduceLT, a_day, Nat.zero_ne_one, Nat.one_ne_zero, false_and, and_false, true_and, and_true, or_false, false_or, or_true, true_or, not_true_eq_false, not_false_eq_true, Nat.zero_add, Nat.add_zero, Nat.le_refl, Nat.lt_irrefl, Nat.zero_lt_succ, Nat.zero_le, forall_const, List.cons.injEq, Value.int.injEq, Value.ref.injEq, Value.long.injEq, and_assoc, exists_and_left, exists_eq_left']
    try simp only [forall_eq]
    unfold takA at h
    subst hB4
    unfold BX5_taken_4
    generalize hB15 : BX5_taken_15 g Q (T_X5_isKind g) (T_X5_isSeam g) (T_X5_isUnder g) = B15
    simp only [T_X5_isKind, T_X5_isSeam, T_X5_isUnder, i_const, i_lconst, i_iload, i_aload, i_lload, i_istore, i_astore, i_lstore, i_iinc, i_bin, i_div, i_un, i_i2l, i_l2i, i_lbin, i_lcmp, i_if, i_icmp, i_dup, i_dup_x1, i_dup2, i_pop, i_geti, i_getr, i_getd, i_puti, i_putz, i_putd, i_iald, i_bald, i_aald, i_iast, i_bast, i_alen, i_keep, i_ret, i_retz, i_reta, i_retl, i_retv, i_callv, i_callk, i_calls, i_mm, i_copy, i_under, i_undld, i_ldcs, i_sw, q_swc0, q_swc1, q_lg0, q_lg1, q_lent0, q_lent1, lset, lset2, q_lins0, q_lins1, q_ldel0, q_ldel1, q_ldel20, q_ldel21, q_lkeep0, q_lkeep1, q_memb0, q_memb1, cat2, Nat.reduceBEq, decide_true, decide_false, decide_eq_true_eq, cond_true, cond_false, Bool.and_true, Bool.and_false, Bool.true_and, Bool.false_and, f_iadd, f_isub, f_imul, f_ishl, f_ishr, f_iushr, f_iand, f_ior, f_idiv, f_irem, f_ineg, f_i2b, f_i2s, f_ladd, f_lmul, c_eq, c_ne, c_lt, c_ge, c_gt, c_le, cc_eq, cc_ne, cc_lt, cc_ge, cc_gt, cc_le, rfo, aof, csum, Value.category, List.take, List.drop, List.reverse, List.reverseAux, List.map, List.sum_cons, List.sum_nil, List.cons_append, List.nil_append, Option.toList, List.mem_cons, List.not_mem_nil, List.length_cons, List.length_nil, reduceIte, Nat.reduceEqDiff, Nat.reduceAdd, Nat.reduceLeDiff, Nat.reduceLT, a_day, Nat.zero_ne_one, Nat.one_ne_zero, false_and, and_false, true_and, and_true, or_false, false_or, or_true, true_or, not_true_eq_false, not_false_eq_true, Nat.zero_add, Nat.add_zero, Nat.le_refl, Nat.lt_irrefl, Nat.zero_lt_succ, Nat.zero_le, forall_const, List.cons.injEq, Value.int.injEq, Value.ref.injEq, Value.long.injEq, and_assoc, exists_and_left, exists_eq_left']
    try simp only [forall_eq]
    refine ⟨fun z1 => ⟨(c_0 hg).1, (c_0 hg).2.1, dn (dv M0 40), by omega, hmany, ?_⟩, fun z1 => ?_⟩
    · have c1 : 0 ≤ k0 ∧ k0 ≤ 5 := ⟨(b2t z1).1, (le5 k0).mp (b2t z1).2⟩
      rw [if_neg (fun q => q c1)] at h
      subst hB15
      unfold BX5_taken_15
      generalize hB39 : BX5_taken_39 g Q (T_X5_isKind g) (T_X5_isSeam g) (T_X5_isUnder g) = B39
      simp only [T_X5_isKind, T_X5_isSeam, T_X5_isUnder, i_const, i_lconst, i_iload, i_aload, i_lload, i_istore, i_astore, i_lstore, i_iinc, i_bin, i_div, i_un, i_i2l, i_l2i, i_lbin, i_lcmp, i_if, i_icmp, i_dup, i_dup_x1, i_dup2, i_pop, i_geti, i_getr, i_getd, i_puti, i_putz, i_putd, i_iald, i_bald, i_aald, i_iast, i_bast, i_alen, i_keep, i_ret, i_retz, i_reta, i_retl, i_retv, i_callv, i_callk, i_calls, i_mm, i_copy, i_under, i_undld, i_ldcs, i_sw, q_swc0, q_swc1, q_lg0, q_lg1, q_lent0, q_lent1, lset, lset2, q_lins0, q_lins1, q_ldel0, q_ldel1, q_ldel20, q_ldel21, q_lkeep0, q_lkeep1, q_memb0, q_memb1, cat2, Nat.reduceBEq, decide_true, decide_false, decide_eq_true_eq, cond_true, cond_false, Bool.and_true, Bool.and_false, Bool.true_and, Bool.false_and, f_iadd, f_isub, f_imul, f_ishl, f_ishr, f_iushr, f_iand, f_ior, f_idiv, f_irem, f_ineg, f_i2b, f_i2s, f_ladd, f_lmul, c_eq, c_ne, c_lt, c_ge, c_gt, c_le, cc_eq, cc_ne, cc_lt, cc_ge, cc_gt, cc_le, rfo, aof, csum, Value.category, List.take, List.drop, List.reverse, List.reverseAux, List.map, List.sum_cons, List.sum_nil, List.cons_append, List.nil_append, Option.toList, List.mem_cons, List.not_mem_nil, List.length_cons, List.length_nil, reduceIte, Nat.reduceEqDiff, Nat.reduceAdd, Nat.reduceLeDiff, Nat.reduceLT, a_day, Nat.zero_ne_one, Nat.one_ne_zero, false_and, and_false, true_and, and_true, or_false, false_or, or_true, true_or, not_true_eq_false, not_false_eq_true, Nat.zero_add, Nat.add_zero, Nat.le_refl, Nat.lt_irrefl, Nat.zero_lt_succ, Nat.zero_le, forall_const, List.cons.injEq, Value.int.injEq, Value.ref.injEq, Value.long.injEq, and_assoc, exists_and_left, exists_eq_left']
      try simp only [forall_eq]
      refine ⟨fun z2 => ?_, fun z2 => ?_⟩
      · have c2 := b2t z2
        rw [if_neg (fun q => q c2)] at h
        obtain ⟨k, hk31, rfl⟩ := nI_of (i_not_lt.mpr c1.1)
        have hk := (nI_leI (b := 5) hk31 (by decide)).mp c1.2
        obtain ⟨sx, hs31, rfl⟩ := nI_of (i_not_lt.mpr c2.1)
        have hs := (nI_ltI hs31 (by omega)).mp c2.2
        obtain ⟨-, -, -, -, -, -, ⟨u0, hu0, eu⟩, -⟩ := ho.seam hs
        have so : okq g 1 (45 + sx) := seam_ok (q := 40) hg D40 (by omega)
        have ek : M0 (45 + sx) 0 = nI u0 := by rw [← eu]; exact (dv_s (q := 40) 0 (by decide) hs).symm
        have en : M0 (45 + sx) 1 = dv M0 40 2 sx := (dv_s (q := 40) 1 (by decide) hs).symm
        rw [nI_clamp hs31, eu] at h
        rw [nI_clamp hs31, ek]
        refine ⟨c_0 hg, c_40 hg, okR hg (by decide) (by decide) rfl, vp_in_nI (n := sx) (N := 7) (by omega) (by decide), so, u0, rfl, k, rfl, hu0, by omega, fun q => ?_, fun q => ?_⟩
        · rw [if_pos ((tak_k hu0 (by omega)).mpr q)] at h
          subst hB39
          unfold BX5_taken_39
          simp only [T_X5_isKind, T_X5_isSeam, T_X5_isUnder, i_const, i_lconst, i_iload, i_aload, i_lload, i_istore, i_astore, i_lstore, i_iinc, i_bin, i_div, i_un, i_i2l, i_l2i, i_lbin, i_lcmp, i_if, i_icmp, i_dup, i_dup_x1, i_dup2, i_pop, i_geti, i_getr, i_getd, i_puti, i_putz, i_putd, i_iald, i_bald, i_aald, i_iast, i_bast, i_alen, i_keep, i_ret, i_retz, i_reta, i_retl, i_retv, i_callv, i_callk, i_calls, i_mm, i_copy, i_under, i_undld, i_ldcs, i_sw, q_swc0, q_swc1, q_lg0, q_lg1, q_lent0, q_lent1, lset, lset2, q_lins0, q_lins1, q_ldel0, q_ldel1, q_ldel20, q_ldel21, q_lkeep0, q_lkeep1, q_memb0, q_memb1, cat2, Nat.reduceBEq, decide_true, decide_false, decide_eq_true_eq, cond_true, cond_false, Bool.and_true, Bool.and_false, Bool.true_and, Bool.false_and, f_iadd, f_isub, f_imul, f_ishl, f_ishr, f_iushr, f_iand, f_ior, f_idiv, f_irem, f_ineg, f_i2b, f_i2s, f_ladd, f_lmul, c_eq, c_ne, c_lt, c_ge, c_gt, c_le, cc_eq, cc_ne, cc_lt, cc_ge, cc_gt, cc_le, rfo, aof, csum, Value.category, List.take, List.drop, List.reverse, List.reverseAux, List.map, List.sum_cons, List.sum_nil, List.cons_append, List.nil_append, Option.toList, List.mem_cons, List.not_mem_nil, List.length_cons, List.length_nil, reduceIte, Nat.reduceEqDiff, Nat.reduceAdd, Nat.reduceLeDiff, Nat.reduceLT, a_day, Nat.zero_ne_one, Nat.one_ne_zero, false_and, and_false, true_and, and_true, or_false, false_or, or_true, true_or, not_true_eq_false, not_false_eq_true, Nat.zero_add, Nat.add_zero, Nat.le_refl, Nat.lt_irrefl, Nat.zero_lt_succ, Nat.zero_le, forall_const, List.cons.injEq, Value.int.injEq, Value.ref.injEq, Value.long.injEq, and_assoc, exists_and_left, exists_eq_left']
          try simp only [forall_eq]
          rw [en]
          exact ⟨fun z => absurd z (by decide), fun _ => ⟨so, h⟩⟩
        · rw [if_neg (fun r => q ((tak_k hu0 (by omega)).mp r))] at h
          subst hB39
          unfold BX5_taken_39
          simp only [T_X5_isKind, T_X5_isSeam, T_X5_isUnder, i_const, i_lconst, i_iload, i_aload, i_lload, i_istore, i_astore, i_lstore, i_iinc, i_bin, i_div, i_un, i_i2l, i_l2i, i_lbin, i_lcmp, i_if, i_icmp, i_dup, i_dup_x1, i_dup2, i_pop, i_geti, i_getr, i_getd, i_puti, i_putz, i_putd, i_iald, i_bald, i_aald, i_iast, i_bast, i_alen, i_keep, i_ret, i_retz, i_reta, i_retl, i_retv, i_callv, i_callk, i_calls, i_mm, i_copy, i_under, i_undld, i_ldcs, i_sw, q_swc0, q_swc1, q_lg0, q_lg1, q_lent0, q_lent1, lset, lset2, q_lins0, q_lins1, q_ldel0, q_ldel1, q_ldel20, q_ldel21, q_lkeep0, q_lkeep1, q_memb0, q_memb1, cat2, Nat.reduceBEq, decide_true, decide_false, decide_eq_true_eq, cond_true, cond_false, Bool.and_true, Bool.and_false, Bool.true_and, Bool.false_and, f_iadd, f_isub, f_imul, f_ishl, f_ishr, f_iushr, f_iand, f_ior, f_idiv, f_irem, f_ineg, f_i2b, f_i2s, f_ladd, f_lmul, c_eq, c_ne, c_lt, c_ge, c_gt, c_le, cc_eq, cc_ne, cc_lt, cc_ge, cc_gt, cc_le, rfo, aof, csum, Value.category, List.take, List.drop, List.reverse, List.reverseAux, List.map, List.sum_cons, List.sum_nil, List.cons_append, List.nil_append, Option.toList, List.mem_cons, List.not_mem_nil, List.length_cons, List.length_nil, reduceIte, Nat.reduceEqDiff, Nat.reduceAdd, Nat.reduceLeDiff, Nat.reduceLT, a_day, Nat.zero_ne_one, Nat.one_ne_zero, false_and, and_false, true_and, and_true, or_false, false_or, or_true, true_or, not_true_eq_false, not_false_eq_true, Nat.zero_add, Nat.add_zero, Nat.le_refl, Nat.lt_irrefl, Nat.zero_lt_succ, Nat.zero_le, forall_const, List.cons.injEq, Value.int.injEq, Value.ref.injEq, Value.long.injEq, and_assoc, exists_and_left, exists_eq_left']
          try simp only [forall_eq]
          exact ⟨h, fun z => z.elim⟩
      · rw [if_pos (b2n (Decidable.not_not.mp z2))] at h
        exact h
    · have : ¬ (0 ≤ k0 ∧ k0 ≤ 5) := fun q => b2n (Decidable.not_not.mp z1) ⟨q.1, (le5 k0).mpr q.2⟩
      rw [if_pos this] at h
      exact h
    
