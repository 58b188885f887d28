/-! ===== the host: cell, copy, seams: the model ===== -/
def cnv (srt v : Int32) : Int32 := if srt = 0 then v.toInt8.toInt32 else if srt = 1 then v.toInt16.toInt32 else v
def celA (srt siz : Nat → Int32) (sh i : Int32) : Int32 := if ¬ (0 ≤ sh ∧ sh ≤ 3) then -2 else if srt sh.toNatClampNeg < 0 then -11 else if ¬ (0 ≤ i ∧ i < siz sh.toNatClampNeg) then -12 else 1
theorem sh_4 {sh : Int32} (h : 0 ≤ sh ∧ sh ≤ 3) : ∃ a, a < 4 ∧ sh = nI a := by
  obtain ⟨a, ha, e⟩ := nI_of (i_not_lt.mpr h.1)
  rw [e] at h
  exact ⟨a, by have := (nI_leI (b := 3) ha (by decide)).mp h.2; omega, e⟩
def T_X6_cell (g : WG) (as : List Value) (M : MM) (Q : Option Value → MM → Prop) : Prop := ∃ sh i v, as = [.ref 76, .int sh, .int i, .int v] ∧ (∀ a, a < 4 → ∃ n, n ≤ 40 ∧ M 100 a = nI n) ∧ (¬ celA (M 99) (M 100) sh i = 1 → Q (some (.int (celA (M 99) (M 100) sh i))) M) ∧ (∀ a k n, sh = nI a → a < 4 → i = nI k → M 100 a = nI n → k < n → n ≤ 40 → ¬ M 99 a < 0 → Q (some (.int 1)) (mset M 101 (40 * a + k) (cnv (M 99 a) v)))
set_option maxRecDepth 100000 in
set_option maxHeartbeats 1000000 in
theorem t_X6_cell {l : Launch} {g : WG} (hg : Full g) : Ct l g yX6_cell cX6_cell 4 ((Option.some FieldType.int)) 3 (T_X6_cell g) := by
  refine Ct.of (by decide) (fun as M Q h => ?_) (fun p e s m args below meth c as M Q h C => ?_)
  · obtain ⟨sh, i, v, rfl, hsz, hb, h⟩ := h; exact ⟨by simp, by simp [Value.category]⟩
  · obtain ⟨sh, i, v, rfl, hsz, hb, h⟩ := h
    refine s_of (fun lv st M0 hs => ?_) (WX6_cell_0 C (t_X6_isSheet hg) (by decide) (t_X6_within hg) (by decide))
    obtain ⟨rfl, rfl, rfl⟩ := hs
    unfold BX6_cell_0
    generalize hB4 : BX6_cell_4 g Q (T_X6_isSheet g) (T_X6_within g) = B4
    simp only [T_X6_isSheet, T_X6_within, i_const, i_lconst, i_iload, i_aload, i_lload, i_istore, i_astore, i_lstore, i_iinc, i_bin, i_div, i_un, i_i2l, i_l2i, i_lbin, i_lcmp, i_if, i_icmp, i_dup, i_dup_x1, i_dup2, i_pop, i_geti, i_getr, i_getd, i_puti, i_putz, i_putd, i_iald, i_bald, i_aald, i_iast, i_bast, i_alen, i_keep, i_ret, i_retz, i_reta, i_retl, i_retv, i_callv, i_callk, i_calls, i_mm, i_copy, i_under, i_undld, i_ldcs, i_sw, q_swc0, q_swc1, q_lg0, q_lg1, q_lent0, q_lent1, lset, lset2, q_lins0, q_lins1, q_ldel0, q_ldel1, q_ldel20, q_ldel21, q_lkeep0, q_lkeep1, q_memb0, q_memb1, cat2, Nat.reduceBEq, decide_true, decide_false, decide_eq_true_eq, cond_true, cond_false, Bool.and_true, Bool.and_false, Bool.true_and, Bool.false_and, f_iadd, f_isub, f_imul, f_ishl, f_ishr, f_iushr, f_iand, f_ior, f_idiv, f_irem, f_ineg, f_i2b, f_i2s, f_ladd, f_lmul, c_eq, c_ne, c_lt, c_ge, c_gt, c_le, cc_eq, cc_ne, cc_lt, cc_ge, cc_gt, cc_le, rfo, aof, csum, Value.category, List.take, List.drop, List.reverse, List.reverseAux, List.map, List.sum_cons, List.sum_nil, List.cons_append, List.nil_append, Option.toList, List.mem_cons, List.not_mem_nil, List.length_cons, List.length_nil, reduceIte, Nat.reduceEqDiff, Nat.reduceAdd, Nat.reduceLeDiff, Nat.reduceLT, a_day, Nat.zero_ne_one, Nat.one_ne_zero, false_and, and_false, true_and, and_true, or_false, false_or, or_true, true_or, not_true_eq_false, not_false_eq_true, Nat.zero_add, Nat.add_zero, Nat.le_refl, Nat.lt_irrefl, Nat.zero_lt_succ, Nat.zero_le, forall_const, List.cons.injEq, Value.int.injEq, Value.ref.injEq, Value.long.injEq, and_assoc, exists_and_left, exists_eq_left']
    try simp only [forall_eq]
    have bad : ∀ x : Int32, ¬ x = 1 → celA (M0 99) (M0 100) sh i = x → Q (some (.int x)) M0 := by
      intro x hx e
      rw [e] at hb
      exact hb hx
    subst hB4
    unfold BX6_cell_4
    generalize hB35 : BX6_cell_35 g Q (T_X6_isSheet g) (T_X6_within g) = B35
    simp only [T_X6_isSheet, T_X6_within, i_const, i_lconst, i_iload, i_aload, i_lload, i_istore, i_astore, i_lstore, i_iinc, i_bin, i_div, i_un, i_i2l, i_l2i, i_lbin, i_lcmp, i_if, i_icmp, i_dup, i_dup_x1, i_dup2, i_pop, i_geti, i_getr, i_getd, i_puti, i_putz, i_putd, i_iald, i_bald, i_aald, i_iast, i_bast, i_alen, i_keep, i_ret, i_retz, i_reta, i_retl, i_retv, i_callv, i_callk, i_calls, i_mm, i_copy, i_under, i_undld, i_ldcs, i_sw, q_swc0, q_swc1, q_lg0, q_lg1, q_lent0, q_lent1, lset, lset2, q_lins0, q_lins1, q_ldel0, q_ldel1, q_ldel20, q_ldel21, q_lkeep0, q_lkeep1, q_memb0, q_memb1, cat2, Nat.reduceBEq, decide_true, decide_false, decide_eq_true_eq, cond_true, cond_false, Bool.and_true, Bool.and_false, Bool.true_and, Bool.false_and, f_iadd, f_isub, f_imul, f_ishl, f_ishr, f_iushr, f_iand, f_ior, f_idiv, f_irem, f_ineg, f_i2b, f_i2s, f_ladd, f_lmul, c_eq, c_ne, c_lt, c_ge, c_gt, c_le, cc_eq, cc_ne, cc_lt, cc_ge, cc_gt, cc_le, rfo, aof, csum, Value.category, List.take, List.drop, List.reverse, List.reverseAux, List.map, List.sum_cons, List.sum_nil, List.cons_append, List.nil_append, Option.toList, List.mem_cons, List.not_mem_nil, List.length_cons, List.length_nil, reduceIte, Nat.reduceEqDiff, Nat.reduceAdd, Nat.reduceLeDiff, Nat.reduceLT, a_day, Nat.zero_ne_one, Nat.one_ne_zero, false_and, and_false, true_and, and_true, or_false, false_or, or_true, true_or, not_true_eq_false, not_false_eq_true, Nat.zero_add, Nat.add_zero, Nat.le_refl, Nat.lt_irrefl, Nat.zero_lt_succ, Nat.zero_le, forall_const, List.cons.injEq, Value.int.injEq, Value.ref.injEq, Value.long.injEq, and_assoc, exists_and_left, exists_eq_left']
    try simp only [forall_eq]
    refine ⟨fun z1 => ?_, fun z1 => bad _ (by decide) (by unfold celA; rw [if_pos (b2n (Decidable.not_not.mp z1))])⟩
    have c1 := b2t z1
    obtain ⟨a, ha, ea⟩ := sh_4 c1
    obtain ⟨n, hn, en⟩ := hsz a ha
    have hc : celA (M0 99) (M0 100) sh i = if M0 99 a < 0 then -11 else if ¬ (0 ≤ i ∧ i < nI n) then -12 else 1 := by
      unfold celA; rw [if_neg (fun q => q c1), ea, nI_clamp (by omega), en]
    rw [ea, nI_clamp (by omega), en]
    refine ⟨m_76 hg, m_99 hg, vm l_99 ha (by decide), fun y => ⟨m_76 hg, m_100 hg, vm l_100 ha (by decide), ?_⟩, fun y => bad _ (by decide) (by rw [hc, if_pos (i_not_le.mp y)])⟩
    subst hB35
    unfold BX6_cell_35
    simp only [T_X6_isSheet, T_X6_within, i_const, i_lconst, i_iload, i_aload, i_lload, i_istore, i_astore, i_lstore, i_iinc, i_bin, i_div, i_un, i_i2l, i_l2i, i_lbin, i_lcmp, i_if, i_icmp, i_dup, i_dup_x1, i_dup2, i_pop, i_geti, i_getr, i_getd, i_puti, i_putz, i_putd, i_iald, i_bald, i_aald, i_iast, i_bast, i_alen, i_keep, i_ret, i_retz, i_reta, i_retl, i_retv, i_callv, i_callk, i_calls, i_mm, i_copy, i_under, i_undld, i_ldcs, i_sw, q_swc0, q_swc1, q_lg0, q_lg1, q_lent0, q_lent1, lset, lset2, q_lins0, q_lins1, q_ldel0, q_ldel1, q_ldel20, q_ldel21, q_lkeep0, q_lkeep1, q_memb0, q_memb1, cat2, Nat.reduceBEq, decide_true, decide_false, decide_eq_true_eq, cond_true, cond_false, Bool.and_true, Bool.and_false, Bool.true_and, Bool.false_and, f_iadd, f_isub, f_imul, f_ishl, f_ishr, f_iushr, f_iand, f_ior, f_idiv, f_irem, f_ineg, f_i2b, f_i2s, f_ladd, f_lmul, c_eq, c_ne, c_lt, c_ge, c_gt, c_le, cc_eq, cc_ne, cc_lt, cc_ge, cc_gt, cc_le, rfo, aof, csum, Value.category, List.take, List.drop, List.reverse, List.reverseAux, List.map, List.sum_cons, List.sum_nil, List.cons_append, List.nil_append, Option.toList, List.mem_cons, List.not_mem_nil, List.length_cons, List.length_nil, reduceIte, Nat.reduceEqDiff, Nat.reduceAdd, Nat.reduceLeDiff, Nat.reduceLT, a_day, Nat.zero_ne_one, Nat.one_ne_zero, false_and, and_false, true_and, and_true, or_false, false_or, or_true, true_or, not_true_eq_false, not_false_eq_true, Nat.zero_add, Nat.add_zero, Nat.le_refl, Nat.lt_irrefl, Nat.zero_lt_succ, Nat.zero_le, forall_const, List.cons.injEq, Value.int.injEq, Value.ref.injEq, Value.long.injEq, and_assoc, exists_and_left, exists_eq_left']
    try simp only [forall_eq]
    refine ⟨fun z2 => ?_, fun z2 => bad _ (by decide) (by rw [hc, if_neg (i_not_lt.mpr y), if_pos (fun q => b2n (Decidable.not_not.mp z2) ⟨q.1, (lt_pred (by omega)).mpr q.2⟩)])⟩
    obtain ⟨q1, q2⟩ := b2t z2
    have q2 := (lt_pred (by omega)).mp q2
    obtain ⟨k, hk31, ek⟩ := nI_of (i_not_lt.mpr q1)
    rw [ek] at q2
    have hk := (nI_ltI hk31 (by omega)).mp q2
    have hf := h a k n ea ha ek en hk hn (i_not_lt.mpr y)
    unfold cnv at hf
    rw [ek, show (40 : Int32) = nI 40 from rfl, pk_mul, nI_add, nI_clamp (show a < 2 ^ 31 by omega), nI_clamp (show 40 * a + k < 2 ^ 31 by omega)]
    refine ⟨m_76 hg, m_76 hg, m_99 hg, vm l_99 ha (by decide), fun e0 => ⟨m_76 hg, m_99 hg, vm l_99 ha (by decide), fun e1 => ⟨m_101 hg, vm l_101 (by omega) (by decide), ?_⟩, fun e1 => ⟨m_101 hg, vm l_101 (by omega) (by decide), ?_⟩⟩, fun e0 => ⟨m_101 hg, vm l_101 (by omega) (by decide), ?_⟩⟩
    · rwa [if_neg e0, if_neg e1] at hf
    · rwa [if_neg e0, if_pos (Decidable.not_not.mp e1)] at hf
    · rwa [if_pos (Decidable.not_not.mp e0)] at hf
def copA (srt siz : Nat → Int32) (sh i ot j n : Int32) : Int32 :=
  if ¬ ((0 ≤ sh ∧ sh ≤ 3) ∧ (0 ≤ ot ∧ ot ≤ 3)) then -2 else if srt sh.toNatClampNeg < 0 ∨ srt ot.toNatClampNeg < 0 then -11 else if ¬ srt sh.toNatClampNeg = srt ot.toNatClampNeg then -13
  else if n < 0 ∨ i < 0 ∨ j < 0 ∨ (siz sh.toNatClampNeg).toNatClampNeg < i.toNatClampNeg + n.toNatClampNeg ∨ (siz ot.toNatClampNeg).toNatClampNeg < j.toNatClampNeg + n.toNatClampNeg then -12 else n
theorem cop_l {a b c : Nat} (ha : a < 2 ^ 31) (hb : b < 2 ^ 31) (hc : c < 2 ^ 31) : (nI a).toInt64 + (nI b).toInt64 ≤ (nI c).toInt64 ↔ a + b ≤ c := by
  rw [nI_l ha, nI_l hb, nI_l hc, lN_add, pk_lLE (by omega) (by omega)]
theorem cop_lt {a b c : Nat} (ha : a < 2 ^ 31) (hb : b < 2 ^ 31) (hc : c < 2 ^ 31) : (nI c).toInt64 < (nI a).toInt64 + (nI b).toInt64 ↔ c < a + b := by
  rw [nI_l ha, nI_l hb, nI_l hc, lN_add, pk_lLT (by omega) (by omega)]
def T_X6_copy (g : WG) (as : List Value) (M : MM) (Q : Option Value → MM → Prop) : Prop := ∃ sh i ot j n, as = [.ref 76, .int sh, .int i, .int ot, .int j, .int n] ∧ (∀ a, a < 4 → ∃ n, n ≤ 40 ∧ M 100 a = nI n) ∧ (copA (M 99) (M 100) sh i ot j n < 0 → Q (some (.int (copA (M 99) (M 100) sh i ot j n))) M) ∧ (¬ copA (M 99) (M 100) sh i ot j n < 0 → ∀ a b i' j' n' M', sh = nI a → ot = nI b → a < 4 → b < 4 → i = nI i' → j = nI j' → n = nI n' → i' + n' ≤ 40 → j' + n' ≤ 40 → Sm (fun x y => x = 101 ∧ 40 * b + j' ≤ y ∧ y < 40 * b + j' + n') M M' → (∀ k, k < n' → M' 101 (40 * b + j' + k) = M 101 (40 * a + i' + k)) → Q (some (.int (nI n'))) M')
set_option maxRecDepth 100000 in
set_option maxHeartbeats 2000000 in
theorem t_X6_copy {l : Launch} {g : WG} (hg : Full g) : Ct l g yX6_copy cX6_copy 7 ((Option.some FieldType.int)) 3 (T_X6_copy g) := by
  refine Ct.of (by decide) (fun as M Q h => ?_) (fun p e s m args below meth c as M Q h C => ?_)
  · obtain ⟨sh, i, ot, j, n0, rfl, hsz, hb, h⟩ := h; exact ⟨by simp, by simp [Value.category]⟩
  · obtain ⟨sh, i, ot, j, n0, rfl, hsz, hb, h⟩ := h
    obtain ⟨I125, hI125⟩ : ∃ I : Nat → PP, I = (fun n lv st M' => ∃ a b i' j' n', sh = nI a ∧ ot = nI b ∧ a < 4 ∧ b < 4 ∧ i = nI i' ∧ j = nI j' ∧ n0 = nI n' ∧ i' + n' ≤ 40 ∧ j' + n' ≤ 40 ∧ a = b ∧ i' < j' ∧ ¬ copA (M 99) (M 100) sh (nI i') ot (nI j') (nI n') < 0 ∧ lv = [(0, .ref 76), (1, .int (nI a)), (2, .int (nI i')), (3, .int (nI b)), (4, .int (nI j')), (5, .int (nI n')), (6, .int (nI n - 1))] ∧ st = [] ∧ n ≤ n' ∧ Sm (fun x y => x = 101 ∧ 40 * b + j' + n ≤ y ∧ y < 40 * b + j' + n') M M' ∧ (∀ k, n ≤ k → k < n' → M' 101 (40 * b + j' + k) = M 101 (40 * a + i' + k))) := ⟨_, rfl⟩
    obtain ⟨E125, hE125⟩ : ∃ E : PP, E = (fun lv st M => ∃ n, I125 n lv st M) := ⟨_, rfl⟩
    have iE125 : ∀ n lv st M, I125 n lv st M → E125 lv st M := fun n lv st M h => by rw [hE125]; exact ⟨n, h⟩
    obtain ⟨I171, hI171⟩ : ∃ I : Nat → PP, I = (fun n lv st M' => ∃ k0 a b i' j' n', sh = nI a ∧ ot = nI b ∧ a < 4 ∧ b < 4 ∧ i = nI i' ∧ j = nI j' ∧ n0 = nI n' ∧ i' + n' ≤ 40 ∧ j' + n' ≤ 40 ∧ (a = b → j' ≤ i') ∧ ¬ copA (M 99) (M 100) sh (nI i') ot (nI j') (nI n') < 0 ∧ lv = [(0, .ref 76), (1, .int (nI a)), (2, .int (nI i')), (3, .int (nI b)), (4, .int (nI j')), (5, .int (nI n')), (6, .int (nI k0))] ∧ st = [] ∧ k0 ≤ n' ∧ n = n' - k0 ∧ Sm (fun x y => x = 101 ∧ 40 * b + j' ≤ y ∧ y < 40 * b + j' + k0) M M' ∧ (∀ k, k < k0 → M' 101 (40 * b + j' + k) = M 101 (40 * a + i' + k))) := ⟨_, rfl⟩
    obtain ⟨E171, hE171⟩ : ∃ E : PP, E = (fun lv st M => ∃ n, I171 n lv st M) := ⟨_, rfl⟩
    have iE171 : ∀ n lv st M, I171 n lv st M → E171 lv st M := fun n lv st M h => by rw [hE171]; exact ⟨n, h⟩
    have L171 : Sj p l e 3 s m args below meth c 7 g (MQ below (cQc g Q) args s 0 0 (gA g)) 171 E171 := by
      rw [hE171]
      refine s_ex (s_loop I171 (fun K171 k171 => WX6_copy_171 C (t_X6_isSheet hg) (by decide) s_F k171) ?_)
      intro n lv st M1 K171 hK171 hI; rw [hI171] at hI; obtain ⟨k0, a, b, i', j', n', ea, eb, ha, hb4, ei, ej, en, h1, h2, hab, ok, rfl, rfl, hk0, rfl, hs, hv⟩ := hI
      unfold BX6_copy_171
      simp only [T_X6_isSheet, i_const, i_lconst, i_iload, i_aload, i_lload, i_istore, i_astore, i_lstore, i_iinc, i_bin, i_div, i_un, i_i2l, i_l2i, i_lbin, i_lcmp, i_if, i_icmp, i_dup, i_dup_x1, i_dup2, i_pop, i_geti, i_getr, i_getd, i_puti, i_putz, i_putd, i_iald, i_bald, i_aald, i_iast, i_bast, i_alen, i_keep, i_ret, i_retz, i_reta, i_retl, i_retv, i_callv, i_callk, i_calls, i_mm, i_copy, i_under, i_undld, i_ldcs, i_sw, q_swc0, q_swc1, q_lg0, q_lg1, q_lent0, q_lent1, lset, lset2, q_lins0, q_lins1, q_ldel0, q_ldel1, q_ldel20, q_ldel21, q_lkeep0, q_lkeep1, q_memb0, q_memb1, cat2, Nat.reduceBEq, decide_true, decide_false, decide_eq_true_eq, cond_true, cond_false, Bool.and_true, Bool.and_false, Bool.true_and, Bool.false_and, f_iadd, f_isub, f_imul, f_ishl, f_ishr, f_iushr, f_iand, f_ior, f_idiv, f_irem, f_ineg, f_i2b, f_i2s, f_ladd, f_lmul, c_eq, c_ne, c_lt, c_ge, c_gt, c_le, cc_eq, cc_ne, cc_lt, cc_ge, cc_gt, cc_le, rfo, aof, csum, Value.category, List.take, List.drop, List.reverse, List.reverseAux, List.map, List.sum_cons, List.sum_nil, List.cons_append, List.nil_append, Option.toList, List.mem_cons, List.not_mem_nil, List.length_cons, List.length_nil, reduceIte, Nat.reduceEqDiff, Nat.reduceAdd, Nat.reduceLeDiff, Nat.reduceLT, a_day, Nat.zero_ne_one, Nat.one_ne_zero, false_and, and_false, true_and, and_true, or_false, false_or, or_true, true_or, not_true_eq_false, not_false_eq_true, Nat.zero_add, Nat.add_zero, Nat.le_refl, Nat.lt_irrefl, Nat.zero_lt_succ, Nat.zero_le, forall_const, List.cons.injEq, Value.int.injEq, Value.ref.injEq, Value.long.injEq, and_assoc, exists_and_left, exists_eq_left']
      try simp only [forall_eq]
      rw [← ei, ← ej, ← en] at ok
      rw [nI_leI (by omega) (by omega)]
      refine ⟨fun z => ?_, fun z => ?_⟩
      · have : k0 = n' := by omega
        subst this
        exact h ok a b i' j' k0 M1 ea eb ha hb4 ei ej en h1 h2 hs hv
      · rw [show (40 : Int32) = nI 40 from rfl, pk_mul, pk_mul, nI_add, nI_add, nI_add, nI_add, nI_clamp (by omega), nI_clamp (by omega), nI_1]
        refine ⟨m_76 hg, m_76 hg, m_101 hg, vm l_101 (by omega) (by decide), m_101 hg, vm l_101 (by omega) (by decide), hK171 (n' - (k0 + 1)) _ _ _ (by omega) ?_⟩
        rw [hI171]
        refine ⟨k0 + 1, a, b, i', j', n', ea, eb, ha, hb4, ei, ej, en, h1, h2, hab, by rw [← ei, ← ej, ← en]; exact ok, rfl, rfl, by omega, rfl, (hs.mono fun x y q => by omega).set _ ⟨rfl, by omega, by omega⟩, fun k hk1 => ?_⟩
        by_cases e : k = k0
        · subst e
          rw [ms_s]
          exact hs _ _ (by omega)
        · rw [ms_j (by omega)]; exact hv k (by omega)
    have L125 : Sj p l e 3 s m args below meth c 7 g (MQ below (cQc g Q) args s 0 0 (gA g)) 125 E125 := by
      rw [hE125]
      refine s_ex (s_loop I125 (fun K125 k125 => WX6_copy_125 C (t_X6_isSheet hg) (by decide) k125 L171) ?_)
      intro n lv st M1 K125 hK125 hI; rw [hI125] at hI; obtain ⟨a, b, i', j', n', ea, eb, ha, hb4, ei, ej, en, h1, h2, hab, hij, ok, rfl, rfl, hn, hs, hv⟩ := hI
      unfold BX6_copy_125
      simp only [T_X6_isSheet, i_const, i_lconst, i_iload, i_aload, i_lload, i_istore, i_astore, i_lstore, i_iinc, i_bin, i_div, i_un, i_i2l, i_l2i, i_lbin, i_lcmp, i_if, i_icmp, i_dup, i_dup_x1, i_dup2, i_pop, i_geti, i_getr, i_getd, i_puti, i_putz, i_putd, i_iald, i_bald, i_aald, i_iast, i_bast, i_alen, i_keep, i_ret, i_retz, i_reta, i_retl, i_retv, i_callv, i_callk, i_calls, i_mm, i_copy, i_under, i_undld, i_ldcs, i_sw, q_swc0, q_swc1, q_lg0, q_lg1, q_lent0, q_lent1, lset, lset2, q_lins0, q_lins1, q_ldel0, q_ldel1, q_ldel20, q_ldel21, q_lkeep0, q_lkeep1, q_memb0, q_memb1, cat2, Nat.reduceBEq, decide_true, decide_false, decide_eq_true_eq, cond_true, cond_false, Bool.and_true, Bool.and_false, Bool.true_and, Bool.false_and, f_iadd, f_isub, f_imul, f_ishl, f_ishr, f_iushr, f_iand, f_ior, f_idiv, f_irem, f_ineg, f_i2b, f_i2s, f_ladd, f_lmul, c_eq, c_ne, c_lt, c_ge, c_gt, c_le, cc_eq, cc_ne, cc_lt, cc_ge, cc_gt, cc_le, rfo, aof, csum, Value.category, List.take, List.drop, List.reverse, List.reverseAux, List.map, List.sum_cons, List.sum_nil, List.cons_append, List.nil_append, Option.toList, List.mem_cons, List.not_mem_nil, List.length_cons, List.length_nil, reduceIte, Nat.reduceEqDiff, Nat.reduceAdd, Nat.reduceLeDiff, Nat.reduceLT, a_day, Nat.zero_ne_one, Nat.one_ne_zero, false_and, and_false, true_and, and_true, or_false, false_or, or_true, true_or, not_true_eq_false, not_false_eq_true, Nat.zero_add, Nat.add_zero, Nat.le_refl, Nat.lt_irrefl, Nat.zero_lt_succ, Nat.zero_le, forall_const, List.cons.injEq, Value.int.injEq, Value.ref.injEq, Value.long.injEq, and_assoc, exists_and_left, exists_eq_left']
      try simp only [forall_eq]
      rw [← ei, ← ej, ← en] at ok
      match n, hK125, hn, hs, hv with
      | 0, _, hn, hs, hv =>
        refine ⟨fun _ => ?_, fun z => absurd (by decide) z⟩
        exact h ok a b i' j' n' M1 ea eb ha hb4 ei ej en h1 h2 (hs.mono fun x y q => by omega) (fun k hk => hv k (Nat.zero_le _) hk)
      | m + 1, hK125, hn, hs, hv =>
        rw [nI_pred]
        refine ⟨fun z => absurd z (nI_pos (by omega)), fun _ => ?_⟩
        rw [show (40 : Int32) = nI 40 from rfl, pk_mul, pk_mul, nI_add, nI_add, nI_add, nI_add, nI_clamp (by omega), nI_clamp (by omega)]
        refine ⟨m_76 hg, m_76 hg, m_101 hg, vm l_101 (by omega) (by decide), m_101 hg, vm l_101 (by omega) (by decide), hK125 m _ _ _ (by omega) ?_⟩
        rw [hI125]
        refine ⟨a, b, i', j', n', ea, eb, ha, hb4, ei, ej, en, h1, h2, hab, hij, by rw [← ei, ← ej, ← en]; exact ok, by rw [Int32.sub_eq_add_neg], rfl, by omega, (hs.mono fun x y q => by omega).set _ ⟨rfl, by omega, by omega⟩, fun k hk1 hk2 => ?_⟩
        by_cases e : k = m
        · subst e; rw [ms_s, hs _ _ (by omega)]
        · rw [ms_j (by omega)]; exact hv k (by omega) hk2
    refine s_of (fun lv st M0 hs => ?_) (WX6_copy_0 C (t_X6_isSheet hg) (by decide) L125 L171)
    obtain ⟨rfl, rfl, rfl⟩ := hs
    unfold BX6_copy_0
    generalize hB4 : BX6_copy_4 g Q (T_X6_isSheet g) E125 E171 = B4
    simp only [T_X6_isSheet, i_const, i_lconst, i_iload, i_aload, i_lload, i_istore, i_astore, i_lstore, i_iinc, i_bin, i_div, i_un, i_i2l, i_l2i, i_lbin, i_lcmp, i_if, i_icmp, i_dup, i_dup_x1, i_dup2, i_pop, i_geti, i_getr, i_getd, i_puti, i_putz, i_putd, i_iald, i_bald, i_aald, i_iast, i_bast, i_alen, i_keep, i_ret, i_retz, i_reta, i_retl, i_retv, i_callv, i_callk, i_calls, i_mm, i_copy, i_under, i_undld, i_ldcs, i_sw, q_swc0, q_swc1, q_lg0, q_lg1, q_lent0, q_lent1, lset, lset2, q_lins0, q_lins1, q_ldel0, q_ldel1, q_ldel20, q_ldel21, q_lkeep0, q_lkeep1, q_memb0, q_memb1, cat2, Nat.reduceBEq, decide_true, decide_false, decide_eq_true_eq, cond_true, cond_false, Bool.and_true, Bool.and_false, Bool.true_and, Bool.false_and, f_iadd, f_isub, f_imul, f_ishl, f_ishr, f_iushr, f_iand, f_ior, f_idiv, f_irem, f_ineg, f_i2b, f_i2s, f_ladd, f_lmul, c_eq, c_ne, c_lt, c_ge, c_gt, c_le, cc_eq, cc_ne, cc_lt, cc_ge, cc_gt, cc_le, rfo, aof, csum, Value.category, List.take, List.drop, List.reverse, List.reverseAux, List.map, List.sum_cons, List.sum_nil, List.cons_append, List.nil_append, Option.toList, List.mem_cons, List.not_mem_nil, List.length_cons, List.length_nil, reduceIte, Nat.reduceEqDiff, Nat.reduceAdd, Nat.reduceLeDiff, Nat.reduceLT, a_day, Nat.zero_ne_one, Nat.one_ne_zero, false_and, and_false, true_and, and_true, or_false, false_or, or_true, true_or, not_true_eq_false, not_false_eq_true, Nat.zero_add, Nat.add_zero, Nat.le_refl, Nat.lt_irrefl, Nat.zero_lt_succ, Nat.zero_le, forall_const, List.cons.injEq, Value.int.injEq, Value.ref.injEq, Value.long.injEq, and_assoc, exists_and_left, exists_eq_left']
    try simp only [forall_eq]
    have bad : ∀ x : Int32, x < 0 → copA (M0 99) (M0 100) sh i ot j n0 = x → Q (some (.int x)) M0 := by
      intro x hx e
      rw [e] at hb
      exact hb hx
    subst hB4
    unfold BX6_copy_4
    generalize hB11 : BX6_copy_11 g Q (T_X6_isSheet g) E125 E171 = B11
    simp only [T_X6_isSheet, i_const, i_lconst, i_iload, i_aload, i_lload, i_istore, i_astore, i_lstore, i_iinc, i_bin, i_div, i_un, i_i2l, i_l2i, i_lbin, i_lcmp, i_if, i_icmp, i_dup, i_dup_x1, i_dup2, i_pop, i_geti, i_getr, i_getd, i_puti, i_putz, i_putd, i_iald, i_bald, i_aald, i_iast, i_bast, i_alen, i_keep, i_ret, i_retz, i_reta, i_retl, i_retv, i_callv, i_callk, i_calls, i_mm, i_copy, i_under, i_undld, i_ldcs, i_sw, q_swc0, q_swc1, q_lg0, q_lg1, q_lent0, q_lent1, lset, lset2, q_lins0, q_lins1, q_ldel0, q_ldel1, q_ldel20, q_ldel21, q_lkeep0, q_lkeep1, q_memb0, q_memb1, cat2, Nat.reduceBEq, decide_true, decide_false, decide_eq_true_eq, cond_true, cond_false, Bool.and_true, Bool.and_false, Bool.true_and, Bool.false_and, f_iadd, f_isub, f_imul, f_ishl, f_ishr, f_iushr, f_iand, f_ior, f_idiv, f_irem, f_ineg, f_i2b, f_i2s, f_ladd, f_lmul, c_eq, c_ne, c_lt, c_ge, c_gt, c_le, cc_eq, cc_ne, cc_lt, cc_ge, cc_gt, cc_le, rfo, aof, csum, Value.category, List.take, List.drop, List.reverse, List.reverseAux, List.map, List.sum_cons, List.sum_nil, List.cons_append, List.nil_append, Option.toList, List.mem_cons, List.not_mem_nil, List.length_cons, List.length_nil, reduceIte, Nat.reduceEqDiff, Nat.reduceAdd, Nat.reduceLeDiff, Nat.reduceLT, a_day, Nat.zero_ne_one, Nat.one_ne_zero, false_and, and_false, true_and, and_true, or_false, false_or, or_true, true_or, not_true_eq_false, not_false_eq_true, Nat.zero_add, Nat.add_zero, Nat.le_refl, Nat.lt_irrefl, Nat.zero_lt_succ, Nat.zero_le, forall_const, List.cons.injEq, Value.int.injEq, Value.ref.injEq, Value.long.injEq, and_assoc, exists_and_left, exists_eq_left']
    try simp only [forall_eq]
    refine ⟨fun z1 => bad _ (by decide) (by unfold copA; rw [if_pos (fun q => b2n z1 q.1)]), fun z1 => ?_⟩
    subst hB11
    unfold BX6_copy_11
    simp only [T_X6_isSheet, i_const, i_lconst, i_iload, i_aload, i_lload, i_istore, i_astore, i_lstore, i_iinc, i_bin, i_div, i_un, i_i2l, i_l2i, i_lbin, i_lcmp, i_if, i_icmp, i_dup, i_dup_x1, i_dup2, i_pop, i_geti, i_getr, i_getd, i_puti, i_putz, i_putd, i_iald, i_bald, i_aald, i_iast, i_bast, i_alen, i_keep, i_ret, i_retz, i_reta, i_retl, i_retv, i_callv, i_callk, i_calls, i_mm, i_copy, i_under, i_undld, i_ldcs, i_sw, q_swc0, q_swc1, q_lg0, q_lg1, q_lent0, q_lent1, lset, lset2, q_lins0, q_lins1, q_ldel0, q_ldel1, q_ldel20, q_ldel21, q_lkeep0, q_lkeep1, q_memb0, q_memb1, cat2, Nat.reduceBEq, decide_true, decide_false, decide_eq_true_eq, cond_true, cond_false, Bool.and_true, Bool.and_false, Bool.true_and, Bool.false_and, f_iadd, f_isub, f_imul, f_ishl, f_ishr, f_iushr, f_iand, f_ior, f_idiv, f_irem, f_ineg, f_i2b, f_i2s, f_ladd, f_lmul, c_eq, c_ne, c_lt, c_ge, c_gt, c_le, cc_eq, cc_ne, cc_lt, cc_ge, cc_gt, cc_le, rfo, aof, csum, Value.category, List.take, List.drop, List.reverse, List.reverseAux, List.map, List.sum_cons, List.sum_nil, List.cons_append, List.nil_append, Option.toList, List.mem_cons, List.not_mem_nil, List.length_cons, List.length_nil, reduceIte, Nat.reduceEqDiff, Nat.reduceAdd, Nat.reduceLeDiff, Nat.reduceLT, a_day, Nat.zero_ne_one, Nat.one_ne_zero, false_and, and_false, true_and, and_true, or_false, false_or, or_true, true_or, not_true_eq_false, not_false_eq_true, Nat.zero_add, Nat.add_zero, Nat.le_refl, Nat.lt_irrefl, Nat.zero_lt_succ, Nat.zero_le, forall_const, List.cons.injEq, Value.int.injEq, Value.ref.injEq, Value.long.injEq, and_assoc, exists_and_left, exists_eq_left']
    try simp only [forall_eq]
    refine ⟨fun z2 => ?_, fun z2 => bad _ (by decide) (by unfold copA; rw [if_pos (fun q => b2n (Decidable.not_not.mp z2) q.2)])⟩
    have c1 := b2t z1
    have c2 := b2t z2
    obtain ⟨a, ha, ea⟩ := sh_4 c1
    obtain ⟨b, hb4, eb⟩ := sh_4 c2
    obtain ⟨sa, hsa, esa⟩ := hsz a ha
    obtain ⟨sb, hsb, esb⟩ := hsz b hb4
    have hc : copA (M0 99) (M0 100) sh i ot j n0 = if M0 99 a < 0 ∨ M0 99 b < 0 then -11 else if ¬ M0 99 a = M0 99 b then -13 else if n0 < 0 ∨ i < 0 ∨ j < 0 ∨ sa < i.toNatClampNeg + n0.toNatClampNeg ∨ sb < j.toNatClampNeg + n0.toNatClampNeg then -12 else n0 := by
      unfold copA; rw [if_neg (fun q => q ⟨c1, c2⟩), ea, eb, nI_clamp (show a < 2 ^ 31 by omega), nI_clamp (show b < 2 ^ 31 by omega), esa, esb, nI_clamp (show sa < 2 ^ 31 by omega), nI_clamp (show sb < 2 ^ 31 by omega)]
    rw [ea, eb, nI_clamp (show a < 2 ^ 31 by omega), nI_clamp (show b < 2 ^ 31 by omega), esa, esb]
    have va : vp_in (nI a) (ln 99) := vm l_99 ha (by decide)
    have vb : vp_in (nI b) (ln 99) := vm l_99 hb4 (by decide)
    have ua : vp_in (nI a) (ln 100) := vm l_100 ha (by decide)
    have ub : vp_in (nI b) (ln 100) := vm l_100 hb4 (by decide)
    refine ⟨m_76 hg, m_99 hg, va, fun y1 => bad _ (by decide) (by rw [hc, if_pos (Or.inl y1)]), fun y1 => ⟨m_76 hg, m_99 hg, vb, fun y2 => ⟨m_76 hg, m_99 hg, va, m_76 hg, m_99 hg, vb, fun y3 => ⟨fun y4 => bad _ (by decide) ?_, fun y4 => ⟨fun y5 => bad _ (by decide) ?_, fun y5 => ⟨fun y6 => bad _ (by decide) ?_, fun y6 => ?_⟩⟩⟩, fun y3 => bad _ (by decide) ?_⟩, fun y2 => bad _ (by decide) (by rw [hc, if_pos (Or.inr (i_not_le.mp y2))])⟩⟩
    · rw [hc, if_neg (fun q => q.elim y1 (i_not_lt.mpr y2)), if_neg (fun q => q y3), if_pos (Or.inl y4)]
    · rw [hc, if_neg (fun q => q.elim y1 (i_not_lt.mpr y2)), if_neg (fun q => q y3), if_pos (Or.inr (Or.inl y5))]
    · rw [hc, if_neg (fun q => q.elim y1 (i_not_lt.mpr y2)), if_neg (fun q => q y3), if_pos (Or.inr (Or.inr (Or.inl y6)))]
    · rw [if_neg (fun q => q.elim y1 (i_not_lt.mpr y2)), if_neg (fun q => q y3)] at hc
      obtain ⟨n', hn31, en⟩ := nI_of y4
      obtain ⟨i', hi31, ei⟩ := nI_of y5
      obtain ⟨j', hj31, ej⟩ := nI_of y6
      rw [en, ei, ej]
      rw [en, ei, ej, nI_clamp hn31, nI_clamp hi31, nI_clamp hj31] at hc
      refine ⟨m_76 hg, m_100 hg, ua, fun y7 => ?_, fun y7 => ⟨m_76 hg, m_100 hg, ub, fun y8 => ?_, fun y8 => ?_⟩⟩
      · rw [lg_cmp_gt, cop_lt hi31 hn31 (by omega)] at y7
        refine bad _ (by decide) ?_
        rw [ei, ej, en, hc, if_pos (by omega)]
      · rw [lg_cmp_gt, cop_lt hi31 hn31 (by omega)] at y7
        rw [lg_cmp_le, cop_l hj31 hn31 (by omega)] at y8
        have ok : ¬ copA (M0 99) (M0 100) sh (nI i') ot (nI j') (nI n') < 0 := by
          rw [hc, if_neg (fun q => ?_)]
          · exact nI_pos hn31
          · rcases q with q | q | q | q | q
            · exact nI_pos hn31 q
            · exact nI_pos hi31 q
            · exact nI_pos hj31 q
            · omega
            · omega
        refine ⟨fun y9 => iE171 (n' - 0) _ _ _ ?_, fun y9 => ⟨fun y10 => iE171 (n' - 0) _ _ _ ?_, fun y10 => iE125 n' _ _ _ ?_⟩⟩
        · rw [hI171]
          exact ⟨0, a, b, i', j', n', ea, eb, ha, hb4, ei, ej, en, by omega, by omega, fun q => absurd (by rw [q]) y9, ok, rfl, rfl, by omega, rfl, Sm.rf, fun k hk => absurd hk (by omega)⟩
        · rw [hI171]
          exact ⟨0, a, b, i', j', n', ea, eb, ha, hb4, ei, ej, en, by omega, by omega, fun _ => (nI_leI hj31 hi31).mp y10, ok, rfl, rfl, by omega, rfl, Sm.rf, fun k hk => absurd hk (by omega)⟩
        · rw [hI125]
          have e1 : a = b := (nI_eq (by omega) (by omega)).mp (Decidable.not_not.mp y9)
          have e2 : i' < j' := by
            rw [nI_leI hj31 hi31] at y10
            omega
          exact ⟨a, b, i', j', n', ea, eb, ha, hb4, ei, ej, en, by omega, by omega, e1, e2, ok, rfl, rfl, Nat.le_refl _, Sm.rf, fun k h1 h2 => by omega⟩
      · rw [lg_cmp_le, cop_l hj31 hn31 (by omega)] at y8
        refine bad _ (by decide) ?_
        rw [ei, ej, en, hc, if_pos (by omega)]
    · rw [hc, if_neg (fun q => q.elim y1 (i_not_lt.mpr y2)), if_pos y3]
/-- seams by a sheet: what one does, and so many -/
def smB (D : DV) (k n e : Int32) : Bool := decide ((((0 ≤ k ∧ k ≤ 5) ∧ (0 ≤ n ∧ n ≤ 9)) ∧ 0 ≤ e ∧ e / 100 ≤ e - e / 100 * 100 ∧ e - e / 100 * 100 ≤ 15) ∧ dn D < 6)
def smE (D : DV) (k n e : Int32) : DV := if smB D k n e then addD D k n (e / 100) (e - e / 100 * 100) else D
def smN (c : Nat → Int32) (siz : Nat) : Nat → Nat → Nat → DV → Int32 × DV
  | 0, _, came, D => (nI came, D)
  | m + 1, at', came, D => if at' + 2 < siz then smN c siz m (at' + 3) (if smB D (c at') (c (at' + 1)) (c (at' + 2)) then came + 1 else came) (smE D (c at') (c (at' + 1)) (c (at' + 2))) else (-12, D)
def smA (c : Nat → Int32) (siz n : Nat) (from' : Int32) (D : DV) : Int32 × DV := if n = 0 then (0, D) else if from' < 0 then (-12, D) else smN c siz n from'.toNatClampNeg 0 D
def smC (srt : Nat → Int32) (sh so n : Int32) : Int32 := if ¬ (((0 ≤ sh ∧ sh ≤ 3) ∧ (0 ≤ so ∧ so ≤ 2)) ∧ (0 ≤ n ∧ n ≤ 6)) then -2 else if srt sh.toNatClampNeg < 0 then -11 else if ¬ srt sh.toNatClampNeg = so then -13 else 0
theorem smB_iff {D : DV} {k n e : Int32} : smB D k n e = true ↔ seamOK k n e ∧ dn D < 6 := by unfold smB seamOK; rw [decide_eq_true_eq]
theorem wfD_sm {D : DV} {T : Nat} {k n e : Int32} (h : wfD D T) (hn : dn D ≤ 6) : wfD (smE D k n e) T ∧ dn (smE D k n e) ≤ 6 := by
  unfold smE
  split
  · next c =>
    obtain ⟨⟨⟨a1, a2⟩, a3, a4⟩, a5⟩ := smB_iff.mp c
    obtain ⟨j, hj, ej, e1, e2⟩ := seam_e a3
    rw [e1] at e2
    rw [e1, e2] at a4
    have b1 := (nI_leI (by omega) (by omega)).mp a4.1
    have b2 := (nI_leI (b := 15) (by omega) (by decide)).mp a4.2
    rw [e1, e2]
    refine ⟨wfD_add h hn (isN_of (n := 5) (by decide) a1) (isN_of (n := 9) (by decide) a2) b1 (by omega), ?_⟩
    show (addD D k n _ _ 7 0).toNatClampNeg ≤ 6
    rw [show addD D k n (nI (j / 100)) (nI (j % 100)) 7 0 = nI (dn D + 1) by simp [addD], nI_clamp (by omega)]
    omega
  · exact ⟨h, hn⟩

