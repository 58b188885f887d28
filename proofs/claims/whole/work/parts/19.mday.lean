/-! ===== the model's day ===== -/
theorem m_76 {g : WG} (hg : Full g) : okq g 6 76 := okR hg (by decide) (by decide) (by decide +kernel)
theorem m_77 {g : WG} (hg : Full g) : okq g 7 77 := okR hg (by decide) (by decide) (by decide +kernel)
theorem l_77 : ln 77 = 16 := by decide +kernel
theorem m_78 {g : WG} (hg : Full g) : okq g 7 78 := okR hg (by decide) (by decide) (by decide +kernel)
theorem l_78 : ln 78 = 7 := by decide +kernel
theorem m_79 {g : WG} (hg : Full g) : okq g 7 79 := okR hg (by decide) (by decide) (by decide +kernel)
theorem l_79 : ln 79 = 7 := by decide +kernel
theorem m_80 {g : WG} (hg : Full g) : okq g 7 80 := okR hg (by decide) (by decide) (by decide +kernel)
theorem l_80 : ln 80 = 7 := by decide +kernel
theorem m_81 {g : WG} (hg : Full g) : okq g 7 81 := okR hg (by decide) (by decide) (by decide +kernel)
theorem l_81 : ln 81 = 7 := by decide +kernel
theorem m_82 {g : WG} (hg : Full g) : okq g 7 82 := okR hg (by decide) (by decide) (by decide +kernel)
theorem l_82 : ln 82 = 7 := by decide +kernel
theorem m_83 {g : WG} (hg : Full g) : okq g 8 83 := okR hg (by decide) (by decide) (by decide +kernel)
theorem l_83 : ln 83 = 7 := by decide +kernel
theorem m_84 {g : WG} (hg : Full g) : okq g 7 84 := okR hg (by decide) (by decide) (by decide +kernel)
theorem l_84 : ln 84 = 160 := by decide +kernel
theorem m_85 {g : WG} (hg : Full g) : okq g 7 85 := okR hg (by decide) (by decide) (by decide +kernel)
theorem l_85 : ln 85 = 18 := by decide +kernel
theorem m_86 {g : WG} (hg : Full g) : okq g 7 86 := okR hg (by decide) (by decide) (by decide +kernel)
theorem l_86 : ln 86 = 18 := by decide +kernel
theorem m_87 {g : WG} (hg : Full g) : okq g 7 87 := okR hg (by decide) (by decide) (by decide +kernel)
theorem l_87 : ln 87 = 3000 := by decide +kernel
theorem m_88 {g : WG} (hg : Full g) : okq g 7 88 := okR hg (by decide) (by decide) (by decide +kernel)
theorem l_88 : ln 88 = 200 := by decide +kernel
theorem m_89 {g : WG} (hg : Full g) : okq g 7 89 := okR hg (by decide) (by decide) (by decide +kernel)
theorem l_89 : ln 89 = 200 := by decide +kernel
theorem m_90 {g : WG} (hg : Full g) : okq g 8 90 := okR hg (by decide) (by decide) (by decide +kernel)
theorem l_90 : ln 90 = 16 := by decide +kernel
theorem m_91 {g : WG} (hg : Full g) : okq g 8 91 := okR hg (by decide) (by decide) (by decide +kernel)
theorem l_91 : ln 91 = 16 := by decide +kernel
theorem m_92 {g : WG} (hg : Full g) : okq g 7 92 := okR hg (by decide) (by decide) (by decide +kernel)
theorem l_92 : ln 92 = 16 := by decide +kernel
theorem m_93 {g : WG} (hg : Full g) : okq g 7 93 := okR hg (by decide) (by decide) (by decide +kernel)
theorem l_93 : ln 93 = 7 := by decide +kernel
theorem m_94 {g : WG} (hg : Full g) : okq g 8 94 := okR hg (by decide) (by decide) (by decide +kernel)
theorem l_94 : ln 94 = 7 := by decide +kernel
theorem m_95 {g : WG} (hg : Full g) : okq g 7 95 := okR hg (by decide) (by decide) (by decide +kernel)
theorem l_95 : ln 95 = 7 := by decide +kernel
theorem m_96 {g : WG} (hg : Full g) : okq g 7 96 := okR hg (by decide) (by decide) (by decide +kernel)
theorem l_96 : ln 96 = 16 := by decide +kernel
theorem m_97 {g : WG} (hg : Full g) : okq g 7 97 := okR hg (by decide) (by decide) (by decide +kernel)
theorem l_97 : ln 97 = 16 := by decide +kernel
theorem m_98 {g : WG} (hg : Full g) : okq g 7 98 := okR hg (by decide) (by decide) (by decide +kernel)
theorem l_98 : ln 98 = 30 := by decide +kernel
theorem m_99 {g : WG} (hg : Full g) : okq g 7 99 := okR hg (by decide) (by decide) (by decide +kernel)
theorem l_99 : ln 99 = 4 := by decide +kernel
theorem m_100 {g : WG} (hg : Full g) : okq g 7 100 := okR hg (by decide) (by decide) (by decide +kernel)
theorem l_100 : ln 100 = 4 := by decide +kernel
theorem m_101 {g : WG} (hg : Full g) : okq g 7 101 := okR hg (by decide) (by decide) (by decide +kernel)
theorem l_101 : ln 101 = 160 := by decide +kernel
theorem vm {n q N : Nat} (hN : ln q = N) (h : n < N) (h2 : N < 2 ^ 31) : vp_in (nI n) (ln q) := by rw [hN]; exact vp_in_nI h h2
def dm (M : MM) : DV := fun f i =>
  if f = 0 then (if i < 16 then M 77 i else 0)
  else if f < 7 then (if i < (M 76 2).toNatClampNeg then M (77 + f) i else 0)
  else if f = 7 then (if i = 0 then M 76 2 else if i = 1 then M 76 0 else if i = 2 then nI (8 + 4 * (M 76 9).toNatClampNeg) else 0) else 0
theorem dm_70 (M : MM) : dm M 7 0 = M 76 2 := rfl
theorem dm_71 (M : MM) : dm M 7 1 = M 76 0 := rfl
theorem dm_72 (M : MM) : dm M 7 2 = nI (8 + 4 * (M 76 9).toNatClampNeg) := rfl
theorem dm_n (M : MM) : dn (dm M) = (M 76 2).toNatClampNeg := rfl
theorem dm_0 (M : MM) {h : Nat} (hh : h < 16) : dm M 0 h = M 77 h := by simp [dm, hh]
theorem dm_s {M : MM} {s : Nat} (f : Nat) (h0 : 0 < f) (h7 : f < 7) (hs : s < dn (dm M)) : dm M f s = M (77 + f) s := by
  rw [dm_n] at hs
  simp only [dm]
  rw [if_neg (by omega), if_pos h7, if_pos hs]
theorem dm_sm {Y : Nat → Nat → Prop} {M M' : MM} (h : Sm Y M M') (h1 : ∀ j, ¬ Y 77 j) (h2 : ∀ j, j = 0 ∨ j = 2 ∨ j = 9 → ¬ Y 76 j) (h3 : ∀ f s, 0 < f → f < 7 → s < 7 → ¬ Y (77 + f) s) (hn : dn (dm M) ≤ 7) : dm M' = dm M := by
  funext f i
  rw [dm_n] at hn
  simp only [dm, h 76 0 (h2 0 (by omega)), h 76 2 (h2 2 (by omega)), h 76 9 (h2 9 (by omega))]
  by_cases h0 : f = 0
  · simp only [h0, if_true, h 77 i (h1 i)]
  · by_cases h7 : f < 7
    · simp only [h0, h7, if_true, if_false]
      split
      · next hi => exact h _ _ (h3 f i (by omega) h7 (by omega))
      · rfl
    · simp only [h0, h7, if_false]
/-- the model's codes, as the class's -/
def tr (m : Int32) : Int32 := if 15 ≤ m then m - 15 else if m ≤ 5 then -1 - m else if m = 6 then -17 else if m = 7 then -18 else if m = 8 then -19 else if m = 9 then -15 else if m = 10 then -16 else if m = 11 then -14 else if m = 12 then -13 else if m = 13 then -12 else -11
def mb (M : MM) (t p : Nat) : Nat := (M 85 (3 * t + p)).toNatClampNeg
def ml (M : MM) (t p : Nat) : Nat := (M 86 (3 * t + p)).toNatClampNeg
def mseg (M : MM) (t p : Nat) : List Int32 := (seg (M 87) (mb M t p) (ml M t p)).map tr
def xm (M : MM) : XV := fun r p => mseg M ((r - 8) / 4) p
def mtx (M : MM) (t : Nat) : Prop := ∀ p, p < 3 → M 85 (3 * t + p) = nI (mb M t p) ∧ M 86 (3 * t + p) = nI (ml M t p) ∧ mb M t p + ml M t p ≤ 3000 ∧ ml M t p ≤ 160 ∧ wfX (mseg M t p) ∧ ∀ j, j < ml M t p → isN (M 87 (mb M t p + j)) 10015
def okM (M : MM) : Prop := ∃ T, wfD (dm M) T ∧ (∀ t, t < T → mtx M t) ∧ ∃ t, t < T ∧ M 76 9 = nI t
theorem okM.n {M : MM} (h : okM M) : dn (dm M) ≤ 7 := by obtain ⟨T, h, -⟩ := h; exact h.2.1
theorem okM.many {M : MM} (h : okM M) : M 76 2 = nI (dn (dm M)) := by obtain ⟨T, h, -⟩ := h; exact h.1
theorem okM.seam {M : MM} (h : okM M) {s : Nat} (hs : s < dn (dm M)) : wfS (dm M) s := by obtain ⟨T, h, -⟩ := h; exact h.2.2.1 s hs
theorem okM.rule {M : MM} (h : okM M) : ∃ t, t < 6 ∧ M 76 9 = nI t ∧ mtx M t ∧ rix (dm M) = 8 + 4 * t := by
  obtain ⟨T, h, h2, t, ht, e⟩ := h
  have h6 := h.2.2.2.2
  refine ⟨t, by omega, e, h2 t ht, ?_⟩
  unfold rix; rw [dm_72, e, nI_clamp (show t < 2 ^ 31 by omega), nI_clamp (show 8 + 4 * t < 2 ^ 31 by omega)]
def T_X6_within (g : WG) (as : List Value) (M : MM) (Q : Option Value → MM → Prop) : Prop := ∃ v lo hi, as = [.int v, .int lo, .int hi] ∧ Q (some (.int (b2i (lo ≤ v ∧ v ≤ hi)))) M
set_option maxRecDepth 100000 in
set_option maxHeartbeats 1000000 in
theorem t_X6_within {l : Launch} {g : WG} (hg : Full g) : Ct l g yX6_within cX6_within 3 ((Option.some FieldType.boolean)) 1 (T_X6_within g) := by
  refine Ct.of (by decide) (fun as M Q h => ?_) (fun p e s m args below meth c as M Q h C => ?_)
  · obtain ⟨v, lo, hi, rfl, h⟩ := h; exact ⟨by simp, by simp [Value.category]⟩
  · obtain ⟨v, lo, hi, rfl, h⟩ := h
    refine s_of (fun lv st M0 hs => ?_) (WX6_within_0 C)
    obtain ⟨rfl, rfl, rfl⟩ := hs
    unfold BX6_within_0
    simp only [i_const, i_lconst, i_iload, i_aload, i_lload, i_istore, i_astore, i_lstore, i_iinc, i_bin, i_div, i_un, i_i2l, i_l2i, i_lbin, i_lcmp, i_if, i_icmp, i_dup, i_dup_x1, i_dup2, i_pop, i_geti, i_getr, i_getd, i_puti, i_putz, i_putd, i_iald, i_bald, i_aald, i_iast, i_bast, i_alen, i_keep, i_ret, i_retz, i_reta, i_retl, i_retv, i_callv, i_callk, i_calls, i_mm, i_copy, i_under, i_undld, i_ldcs, i_sw, q_swc0, q_swc1, q_lg0, q_lg1, q_lent0, q_lent1, lset, lset2, q_lins0, q_lins1, q_ldel0, q_ldel1, q_ldel20, q_ldel21, q_lkeep0, q_lkeep1, q_memb0, q_memb1, cat2, Nat.reduceBEq, decide_true, decide_false, decide_eq_true_eq, cond_true, cond_false, Bool.and_true, Bool.and_false, Bool.true_and, Bool.false_and, f_iadd, f_isub, f_imul, f_ishl, f_ishr, f_iushr, f_iand, f_ior, f_idiv, f_irem, f_ineg, f_i2b, f_i2s, f_ladd, f_lmul, c_eq, c_ne, c_lt, c_ge, c_gt, c_le, cc_eq, cc_ne, cc_lt, cc_ge, cc_gt, cc_le, rfo, aof, csum, Value.category, List.take, List.drop, List.reverse, List.reverseAux, List.map, List.sum_cons, List.sum_nil, List.cons_append, List.nil_append, Option.toList, List.mem_cons, List.not_mem_nil, List.length_cons, List.length_nil, reduceIte, Nat.reduceEqDiff, Nat.reduceAdd, Nat.reduceLeDiff, Nat.reduceLT, a_day, Nat.zero_ne_one, Nat.one_ne_zero, false_and, and_false, true_and, and_true, or_false, false_or, or_true, true_or, not_true_eq_false, not_false_eq_true, Nat.zero_add, Nat.add_zero, Nat.le_refl, Nat.lt_irrefl, Nat.zero_lt_succ, Nat.zero_le, forall_const, List.cons.injEq, Value.int.injEq, Value.ref.injEq, Value.long.injEq, and_assoc, exists_and_left, exists_eq_left']
    try simp only [forall_eq]
    refine ⟨fun z => ?_, fun z => ⟨fun y => ?_, fun y => ?_⟩⟩
    · rwa [b2i_f (fun w => i_not_lt.mpr w.1 z)] at h
    · rwa [b2i_f (fun w => i_not_lt.mpr w.2 y)] at h
    · rwa [b2i_t ⟨i_not_lt.mp z, i_not_lt.mp y⟩] at h
theorem lt_pred {x : Int32} {n : Nat} (hn : n < 100) : x ≤ nI n - 1 ↔ x < nI n := by
  have h1 : (nI n - 1 : Int32).toInt = (n : Int) - 1 := by
    have := pk_sub_toInt (a := n) (b := 1) (by omega) (by omega)
    exact this
  rw [i_le, i_lt, h1, nI_toInt (by omega)]; omega
def T_X6_isSeam (g : WG) (as : List Value) (M : MM) (Q : Option Value → MM → Prop) : Prop := ∃ x n, as = [.ref 76, .int x] ∧ n < 100 ∧ M 76 2 = nI n ∧ Q (some (.int (b2i (0 ≤ x ∧ x < nI n)))) M
set_option maxRecDepth 100000 in
set_option maxHeartbeats 1000000 in
theorem t_X6_isSeam {l : Launch} {g : WG} (hg : Full g) : Ct l g yX6_isSeam cX6_isSeam 2 ((Option.some FieldType.boolean)) 2 (T_X6_isSeam g) := by
  refine Ct.of (by decide) (fun as M Q h => ?_) (fun p e s m args below meth c as M Q h C => ?_)
  · obtain ⟨x, n, rfl, hn, h2, h⟩ := h; exact ⟨by simp, by simp [Value.category]⟩
  · obtain ⟨x, n, rfl, hn, h2, h⟩ := h
    refine s_of (fun lv st M0 hs => ?_) (WX6_isSeam_0 C (t_X6_within hg) (by decide))
    obtain ⟨rfl, rfl, rfl⟩ := hs
    unfold BX6_isSeam_0
    simp only [T_X6_within, i_const, i_lconst, i_iload, i_aload, i_lload, i_istore, i_astore, i_lstore, i_iinc, i_bin, i_div, i_un, i_i2l, i_l2i, i_lbin, i_lcmp, i_if, i_icmp, i_dup, i_dup_x1, i_dup2, i_pop, i_geti, i_getr, i_getd, i_puti, i_putz, i_putd, i_iald, i_bald, i_aald, i_iast, i_bast, i_alen, i_keep, i_ret, i_retz, i_reta, i_retl, i_retv, i_callv, i_callk, i_calls, i_mm, i_copy, i_under, i_undld, i_ldcs, i_sw, q_swc0, q_swc1, q_lg0, q_lg1, q_lent0, q_lent1, lset, lset2, q_lins0, q_lins1, q_ldel0, q_ldel1, q_ldel20, q_ldel21, q_lkeep0, q_lkeep1, q_memb0, q_memb1, cat2, Nat.reduceBEq, decide_true, decide_false, decide_eq_true_eq, cond_true, cond_false, Bool.and_true, Bool.and_false, Bool.true_and, Bool.false_and, f_iadd, f_isub, f_imul, f_ishl, f_ishr, f_iushr, f_iand, f_ior, f_idiv, f_irem, f_ineg, f_i2b, f_i2s, f_ladd, f_lmul, c_eq, c_ne, c_lt, c_ge, c_gt, c_le, cc_eq, cc_ne, cc_lt, cc_ge, cc_gt, cc_le, rfo, aof, csum, Value.category, List.take, List.drop, List.reverse, List.reverseAux, List.map, List.sum_cons, List.sum_nil, List.cons_append, List.nil_append, Option.toList, List.mem_cons, List.not_mem_nil, List.length_cons, List.length_nil, reduceIte, Nat.reduceEqDiff, Nat.reduceAdd, Nat.reduceLeDiff, Nat.reduceLT, a_day, Nat.zero_ne_one, Nat.one_ne_zero, false_and, and_false, true_and, and_true, or_false, false_or, or_true, true_or, not_true_eq_false, not_false_eq_true, Nat.zero_add, Nat.add_zero, Nat.le_refl, Nat.lt_irrefl, Nat.zero_lt_succ, Nat.zero_le, forall_const, List.cons.injEq, Value.int.injEq, Value.ref.injEq, Value.long.injEq, and_assoc, exists_and_left, exists_eq_left']
    try simp only [forall_eq]
    rw [h2]
    refine ⟨m_76 hg, b2i_z _, ?_⟩
    rw [show b2i (0 ≤ x ∧ x ≤ nI n - 1) = b2i (0 ≤ x ∧ x < nI n) by unfold b2i; simp only [lt_pred hn]]
    exact h
def T_X6_isHour (g : WG) (as : List Value) (M : MM) (Q : Option Value → MM → Prop) : Prop := ∃ x, as = [.int x] ∧ Q (some (.int (b2i (0 ≤ x ∧ x ≤ 15)))) M
set_option maxRecDepth 100000 in
set_option maxHeartbeats 1000000 in
theorem t_X6_isHour {l : Launch} {g : WG} (hg : Full g) : Ct l g yX6_isHour cX6_isHour 1 ((Option.some FieldType.boolean)) 2 (T_X6_isHour g) := by
  refine Ct.of (by decide) (fun as M Q h => ?_) (fun p e s m args below meth c as M Q h C => ?_)
  · obtain ⟨x, rfl, h⟩ := h; exact ⟨by simp, by simp [Value.category]⟩
  · obtain ⟨x, rfl, h⟩ := h
    refine s_of (fun lv st M0 hs => ?_) (WX6_isHour_0 C (t_X6_within hg) (by decide))
    obtain ⟨rfl, rfl, rfl⟩ := hs
    unfold BX6_isHour_0
    simp only [T_X6_within, i_const, i_lconst, i_iload, i_aload, i_lload, i_istore, i_astore, i_lstore, i_iinc, i_bin, i_div, i_un, i_i2l, i_l2i, i_lbin, i_lcmp, i_if, i_icmp, i_dup, i_dup_x1, i_dup2, i_pop, i_geti, i_getr, i_getd, i_puti, i_putz, i_putd, i_iald, i_bald, i_aald, i_iast, i_bast, i_alen, i_keep, i_ret, i_retz, i_reta, i_retl, i_retv, i_callv, i_callk, i_calls, i_mm, i_copy, i_under, i_undld, i_ldcs, i_sw, q_swc0, q_swc1, q_lg0, q_lg1, q_lent0, q_lent1, lset, lset2, q_lins0, q_lins1, q_ldel0, q_ldel1, q_ldel20, q_ldel21, q_lkeep0, q_lkeep1, q_memb0, q_memb1, cat2, Nat.reduceBEq, decide_true, decide_false, decide_eq_true_eq, cond_true, cond_false, Bool.and_true, Bool.and_false, Bool.true_and, Bool.false_and, f_iadd, f_isub, f_imul, f_ishl, f_ishr, f_iushr, f_iand, f_ior, f_idiv, f_irem, f_ineg, f_i2b, f_i2s, f_ladd, f_lmul, c_eq, c_ne, c_lt, c_ge, c_gt, c_le, cc_eq, cc_ne, cc_lt, cc_ge, cc_gt, cc_le, rfo, aof, csum, Value.category, List.take, List.drop, List.reverse, List.reverseAux, List.map, List.sum_cons, List.sum_nil, List.cons_append, List.nil_append, Option.toList, List.mem_cons, List.not_mem_nil, List.length_cons, List.length_nil, reduceIte, Nat.reduceEqDiff, Nat.reduceAdd, Nat.reduceLeDiff, Nat.reduceLT, a_day, Nat.zero_ne_one, Nat.one_ne_zero, false_and, and_false, true_and, and_true, or_false, false_or, or_true, true_or, not_true_eq_false, not_false_eq_true, Nat.zero_add, Nat.add_zero, Nat.le_refl, Nat.lt_irrefl, Nat.zero_lt_succ, Nat.zero_le, forall_const, List.cons.injEq, Value.int.injEq, Value.ref.injEq, Value.long.injEq, and_assoc, exists_and_left, exists_eq_left']
    try simp only [forall_eq]
    exact ⟨b2i_z _, h⟩
def T_X6_isSheet (g : WG) (as : List Value) (M : MM) (Q : Option Value → MM → Prop) : Prop := ∃ x, as = [.int x] ∧ Q (some (.int (b2i (0 ≤ x ∧ x ≤ 3)))) M
set_option maxRecDepth 100000 in
set_option maxHeartbeats 1000000 in
theorem t_X6_isSheet {l : Launch} {g : WG} (hg : Full g) : Ct l g yX6_isSheet cX6_isSheet 1 ((Option.some FieldType.boolean)) 2 (T_X6_isSheet g) := by
  refine Ct.of (by decide) (fun as M Q h => ?_) (fun p e s m args below meth c as M Q h C => ?_)
  · obtain ⟨x, rfl, h⟩ := h; exact ⟨by simp, by simp [Value.category]⟩
  · obtain ⟨x, rfl, h⟩ := h
    refine s_of (fun lv st M0 hs => ?_) (WX6_isSheet_0 C (t_X6_within hg) (by decide))
    obtain ⟨rfl, rfl, rfl⟩ := hs
    unfold BX6_isSheet_0
    simp only [T_X6_within, i_const, i_lconst, i_iload, i_aload, i_lload, i_istore, i_astore, i_lstore, i_iinc, i_bin, i_div, i_un, i_i2l, i_l2i, i_lbin, i_lcmp, i_if, i_icmp, i_dup, i_dup_x1, i_dup2, i_pop, i_geti, i_getr, i_getd, i_puti, i_putz, i_putd, i_iald, i_bald, i_aald, i_iast, i_bast, i_alen, i_keep, i_ret, i_retz, i_reta, i_retl, i_retv, i_callv, i_callk, i_calls, i_mm, i_copy, i_under, i_undld, i_ldcs, i_sw, q_swc0, q_swc1, q_lg0, q_lg1, q_lent0, q_lent1, lset, lset2, q_lins0, q_lins1, q_ldel0, q_ldel1, q_ldel20, q_ldel21, q_lkeep0, q_lkeep1, q_memb0, q_memb1, cat2, Nat.reduceBEq, decide_true, decide_false, decide_eq_true_eq, cond_true, cond_false, Bool.and_true, Bool.and_false, Bool.true_and, Bool.false_and, f_iadd, f_isub, f_imul, f_ishl, f_ishr, f_iushr, f_iand, f_ior, f_idiv, f_irem, f_ineg, f_i2b, f_i2s, f_ladd, f_lmul, c_eq, c_ne, c_lt, c_ge, c_gt, c_le, cc_eq, cc_ne, cc_lt, cc_ge, cc_gt, cc_le, rfo, aof, csum, Value.category, List.take, List.drop, List.reverse, List.reverseAux, List.map, List.sum_cons, List.sum_nil, List.cons_append, List.nil_append, Option.toList, List.mem_cons, List.not_mem_nil, List.length_cons, List.length_nil, reduceIte, Nat.reduceEqDiff, Nat.reduceAdd, Nat.reduceLeDiff, Nat.reduceLT, a_day, Nat.zero_ne_one, Nat.one_ne_zero, false_and, and_false, true_and, and_true, or_false, false_or, or_true, true_or, not_true_eq_false, not_false_eq_true, Nat.zero_add, Nat.add_zero, Nat.le_refl, Nat.lt_irrefl, Nat.zero_lt_succ, Nat.zero_le, forall_const, List.cons.injEq, Value.int.injEq, Value.ref.injEq, Value.long.injEq, and_assoc, exists_and_left, exists_eq_left']
    try simp only [forall_eq]
    exact ⟨b2i_z _, h⟩
def T_X6_bound (g : WG) (as : List Value) (M : MM) (Q : Option Value → MM → Prop) : Prop := ∃ v hi, as = [.int v, .int hi] ∧ Q (some (.int (bnd v hi))) M
set_option maxRecDepth 100000 in
set_option maxHeartbeats 1000000 in
theorem t_X6_bound {l : Launch} {g : WG} (hg : Full g) : Ct l g yX6_bound cX6_bound 2 ((Option.some FieldType.int)) 1 (T_X6_bound g) := by
  refine Ct.of (by decide) (fun as M Q h => ?_) (fun p e s m args below meth c as M Q h C => ?_)
  · obtain ⟨v, hi, rfl, h⟩ := h; exact ⟨by simp, by simp [Value.category]⟩
  · obtain ⟨v, hi, rfl, h⟩ := h
    refine s_of (fun lv st M0 hs => ?_) (WX6_bound_0 C)
    obtain ⟨rfl, rfl, rfl⟩ := hs
    unfold BX6_bound_0
    simp only [i_const, i_lconst, i_iload, i_aload, i_lload, i_istore, i_astore, i_lstore, i_iinc, i_bin, i_div, i_un, i_i2l, i_l2i, i_lbin, i_lcmp, i_if, i_icmp, i_dup, i_dup_x1, i_dup2, i_pop, i_geti, i_getr, i_getd, i_puti, i_putz, i_putd, i_iald, i_bald, i_aald, i_iast, i_bast, i_alen, i_keep, i_ret, i_retz, i_reta, i_retl, i_retv, i_callv, i_callk, i_calls, i_mm, i_copy, i_under, i_undld, i_ldcs, i_sw, q_swc0, q_swc1, q_lg0, q_lg1, q_lent0, q_lent1, lset, lset2, q_lins0, q_lins1, q_ldel0, q_ldel1, q_ldel20, q_ldel21, q_lkeep0, q_lkeep1, q_memb0, q_memb1, cat2, Nat.reduceBEq, decide_true, decide_false, decide_eq_true_eq, cond_true, cond_false, Bool.and_true, Bool.and_false, Bool.true_and, Bool.false_and, f_iadd, f_isub, f_imul, f_ishl, f_ishr, f_iushr, f_iand, f_ior, f_idiv, f_irem, f_ineg, f_i2b, f_i2s, f_ladd, f_lmul, c_eq, c_ne, c_lt, c_ge, c_gt, c_le, cc_eq, cc_ne, cc_lt, cc_ge, cc_gt, cc_le, rfo, aof, csum, Value.category, List.take, List.drop, List.reverse, List.reverseAux, List.map, List.sum_cons, List.sum_nil, List.cons_append, List.nil_append, Option.toList, List.mem_cons, List.not_mem_nil, List.length_cons, List.length_nil, reduceIte, Nat.reduceEqDiff, Nat.reduceAdd, Nat.reduceLeDiff, Nat.reduceLT, a_day, Nat.zero_ne_one, Nat.one_ne_zero, false_and, and_false, true_and, and_true, or_false, false_or, or_true, true_or, not_true_eq_false, not_false_eq_true, Nat.zero_add, Nat.add_zero, Nat.le_refl, Nat.lt_irrefl, Nat.zero_lt_succ, Nat.zero_le, forall_const, List.cons.injEq, Value.int.injEq, Value.ref.injEq, Value.long.injEq, and_assoc, exists_and_left, exists_eq_left']
    try simp only [forall_eq]
    unfold bnd at h
    refine ⟨fun z => ⟨fun y => ?_, fun y => ?_⟩, fun z => ?_⟩
    · rwa [if_neg (i_not_lt.mpr z), if_neg (i_not_lt.mpr y)] at h
    · rwa [if_neg (i_not_lt.mpr z), if_pos (i_not_le.mp y)] at h
    · rwa [if_pos (i_not_le.mp z)] at h
def T_X6_whole (g : WG) (as : List Value) (M : MM) (Q : Option Value → MM → Prop) : Prop := as = [.ref 76] ∧ M 76 2 = nI (dn (dm M)) ∧ dn (dm M) ≤ 7 ∧ Q (some (.int (whl (dm M) (dn (dm M))))) M
set_option maxRecDepth 100000 in
set_option maxHeartbeats 1000000 in
theorem t_X6_whole {l : Launch} {g : WG} (hg : Full g) : Ct l g yX6_whole cX6_whole 3 ((Option.some FieldType.int)) 1 (T_X6_whole g) := by
  refine Ct.of (by decide) (fun as M Q h => ?_) (fun p e s m args below meth c as M Q h C => ?_)
  · obtain ⟨rfl, h2, hn, h⟩ := h; exact ⟨by simp, by simp [Value.category]⟩
  · obtain ⟨rfl, h2, hn, h⟩ := h
    obtain ⟨I4, hI4⟩ : ∃ I : Nat → PP, I = (fun n lv st M' => M' = M ∧ ∃ k, lv = [(0, .ref 76), (1, .int (whl (dm M) k)), (2, .int (nI k))] ∧ st = [] ∧ k ≤ dn (dm M) ∧ n = dn (dm M) - k) := ⟨_, rfl⟩
    obtain ⟨E4, hE4⟩ : ∃ E : PP, E = (fun lv st M => ∃ n, I4 n lv st M) := ⟨_, rfl⟩
    have iE4 : ∀ n lv st M, I4 n lv st M → E4 lv st M := fun n lv st M h => by rw [hE4]; exact ⟨n, h⟩
    have L4 : Sj p l e 1 s m args below meth c 3 g (MQ below (cQc g Q) args s 0 0 (gA g)) 4 E4 := by
      rw [hE4]
      refine s_ex (s_loop I4 (fun K4 k4 => WX6_whole_4 C k4) ?_)
      intro n lv st M1 K4 hK4 hI; rw [hI4] at hI; obtain ⟨rfl, k, rfl, rfl, hk, rfl⟩ := hI
      unfold BX6_whole_4
      simp only [i_const, i_lconst, i_iload, i_aload, i_lload, i_istore, i_astore, i_lstore, i_iinc, i_bin, i_div, i_un, i_i2l, i_l2i, i_lbin, i_lcmp, i_if, i_icmp, i_dup, i_dup_x1, i_dup2, i_pop, i_geti, i_getr, i_getd, i_puti, i_putz, i_putd, i_iald, i_bald, i_aald, i_iast, i_bast, i_alen, i_keep, i_ret, i_retz, i_reta, i_retl, i_retv, i_callv, i_callk, i_calls, i_mm, i_copy, i_under, i_undld, i_ldcs, i_sw, q_swc0, q_swc1, q_lg0, q_lg1, q_lent0, q_lent1, lset, lset2, q_lins0, q_lins1, q_ldel0, q_ldel1, q_ldel20, q_ldel21, q_lkeep0, q_lkeep1, q_memb0, q_memb1, cat2, Nat.reduceBEq, decide_true, decide_false, decide_eq_true_eq, cond_true, cond_false, Bool.and_true, Bool.and_false, Bool.true_and, Bool.false_and, f_iadd, f_isub, f_imul, f_ishl, f_ishr, f_iushr, f_iand, f_ior, f_idiv, f_irem, f_ineg, f_i2b, f_i2s, f_ladd, f_lmul, c_eq, c_ne, c_lt, c_ge, c_gt, c_le, cc_eq, cc_ne, cc_lt, cc_ge, cc_gt, cc_le, rfo, aof, csum, Value.category, List.take, List.drop, List.reverse, List.reverseAux, List.map, List.sum_cons, List.sum_nil, List.cons_append, List.nil_append, Option.toList, List.mem_cons, List.not_mem_nil, List.length_cons, List.length_nil, reduceIte, Nat.reduceEqDiff, Nat.reduceAdd, Nat.reduceLeDiff, Nat.reduceLT, a_day, Nat.zero_ne_one, Nat.one_ne_zero, false_and, and_false, true_and, and_true, or_false, false_or, or_true, true_or, not_true_eq_false, not_false_eq_true, Nat.zero_add, Nat.add_zero, Nat.le_refl, Nat.lt_irrefl, Nat.zero_lt_succ, Nat.zero_le, forall_const, List.cons.injEq, Value.int.injEq, Value.ref.injEq, Value.long.injEq, and_assoc, exists_and_left, exists_eq_left']
      try simp only [forall_eq]
      rw [h2]
      refine ⟨m_76 hg, fun z => ?_, fun z => ?_⟩
      · have hkk : k = dn (dm M1) := by
          have := (nI_leI (a := dn (dm M1)) (b := k) (by omega) (by omega)).mp z
          omega
        rw [hkk]; exact h
      · have hlt : k < dn (dm M1) := by
          rcases Nat.lt_or_ge k (dn (dm M1)) with w | w
          · exact w
          · exact absurd (nI_le w (by omega)) z
        have hb : M1 83 k = dm M1 6 k := (dm_s 6 (by omega) (by omega) hlt).symm
        rw [nI_clamp (by omega), hb]
        refine ⟨m_76 hg, m_83 hg, vm l_83 (by omega) (by decide), fun y => ?_, fun y => ?_⟩
        · refine hK4 (dn (dm M1) - (k + 1)) _ _ _ (by omega) ?_
          rw [hI4]
          exact ⟨rfl, k + 1, by rw [nI_1]; simp only [whl, y, if_false, Int32.add_zero], rfl, by omega, rfl⟩
        · refine hK4 (dn (dm M1) - (k + 1)) _ _ _ (by omega) ?_
          rw [hI4]
          exact ⟨rfl, k + 1, by rw [nI_1]; simp only [whl, Decidable.not_not.mp y, if_true], rfl, by omega, rfl⟩
    refine s_of (fun lv st M0 hs => ?_) (WX6_whole_0 C L4)
    obtain ⟨rfl, rfl, rfl⟩ := hs
    unfold BX6_whole_0
    simp only [i_const, i_lconst, i_iload, i_aload, i_lload, i_istore, i_astore, i_lstore, i_iinc, i_bin, i_div, i_un, i_i2l, i_l2i, i_lbin, i_lcmp, i_if, i_icmp, i_dup, i_dup_x1, i_dup2, i_pop, i_geti, i_getr, i_getd, i_puti, i_putz, i_putd, i_iald, i_bald, i_aald, i_iast, i_bast, i_alen, i_keep, i_ret, i_retz, i_reta, i_retl, i_retv, i_callv, i_callk, i_calls, i_mm, i_copy, i_under, i_undld, i_ldcs, i_sw, q_swc0, q_swc1, q_lg0, q_lg1, q_lent0, q_lent1, lset, lset2, q_lins0, q_lins1, q_ldel0, q_ldel1, q_ldel20, q_ldel21, q_lkeep0, q_lkeep1, q_memb0, q_memb1, cat2, Nat.reduceBEq, decide_true, decide_false, decide_eq_true_eq, cond_true, cond_false, Bool.and_true, Bool.and_false, Bool.true_and, Bool.false_and, f_iadd, f_isub, f_imul, f_ishl, f_ishr, f_iushr, f_iand, f_ior, f_idiv, f_irem, f_ineg, f_i2b, f_i2s, f_ladd, f_lmul, c_eq, c_ne, c_lt, c_ge, c_gt, c_le, cc_eq, cc_ne, cc_lt, cc_ge, cc_gt, cc_le, rfo, aof, csum, Value.category, List.take, List.drop, List.reverse, List.reverseAux, List.map, List.sum_cons, List.sum_nil, List.cons_append, List.nil_append, Option.toList, List.mem_cons, List.not_mem_nil, List.length_cons, List.length_nil, reduceIte, Nat.reduceEqDiff, Nat.reduceAdd, Nat.reduceLeDiff, Nat.reduceLT, a_day, Nat.zero_ne_one, Nat.one_ne_zero, false_and, and_false, true_and, and_true, or_false, false_or, or_true, true_or, not_true_eq_false, not_false_eq_true, Nat.zero_add, Nat.add_zero, Nat.le_refl, Nat.lt_irrefl, Nat.zero_lt_succ, Nat.zero_le, forall_const, List.cons.injEq, Value.int.injEq, Value.ref.injEq, Value.long.injEq, and_assoc, exists_and_left, exists_eq_left']
    try simp only [forall_eq]
    refine iE4 (dn (dm M0) - 0) _ _ _ ?_
    rw [hI4]
    exact ⟨rfl, 0, rfl, rfl, by omega, rfl⟩
def T_X6_lengthOf (g : WG) (as : List Value) (M : MM) (Q : Option Value → MM → Prop) : Prop := ∃ s, as = [.ref 76, .int (nI s)] ∧ s < 7 ∧ Q (some (.int (M 81 s - M 80 s + 1))) M
set_option maxRecDepth 100000 in
set_option maxHeartbeats 1000000 in
theorem t_X6_lengthOf {l : Launch} {g : WG} (hg : Full g) : Ct l g yX6_lengthOf cX6_lengthOf 2 ((Option.some FieldType.int)) 1 (T_X6_lengthOf g) := by
  refine Ct.of (by decide) (fun as M Q h => ?_) (fun p e s m args below meth c as M Q h C => ?_)
  · obtain ⟨s0, rfl, hs, h⟩ := h; exact ⟨by simp, by simp [Value.category]⟩
  · obtain ⟨s0, rfl, hs, h⟩ := h
    refine s_of (fun lv st M0 hs => ?_) (WX6_lengthOf_0 C)
    obtain ⟨rfl, rfl, rfl⟩ := hs
    unfold BX6_lengthOf_0
    simp only [i_const, i_lconst, i_iload, i_aload, i_lload, i_istore, i_astore, i_lstore, i_iinc, i_bin, i_div, i_un, i_i2l, i_l2i, i_lbin, i_lcmp, i_if, i_icmp, i_dup, i_dup_x1, i_dup2, i_pop, i_geti, i_getr, i_getd, i_puti, i_putz, i_putd, i_iald, i_bald, i_aald, i_iast, i_bast, i_alen, i_keep, i_ret, i_retz, i_reta, i_retl, i_retv, i_callv, i_callk, i_calls, i_mm, i_copy, i_under, i_undld, i_ldcs, i_sw, q_swc0, q_swc1, q_lg0, q_lg1, q_lent0, q_lent1, lset, lset2, q_lins0, q_lins1, q_ldel0, q_ldel1, q_ldel20, q_ldel21, q_lkeep0, q_lkeep1, q_memb0, q_memb1, cat2, Nat.reduceBEq, decide_true, decide_false, decide_eq_true_eq, cond_true, cond_false, Bool.and_true, Bool.and_false, Bool.true_and, Bool.false_and, f_iadd, f_isub, f_imul, f_ishl, f_ishr, f_iushr, f_iand, f_ior, f_idiv, f_irem, f_ineg, f_i2b, f_i2s, f_ladd, f_lmul, c_eq, c_ne, c_lt, c_ge, c_gt, c_le, cc_eq, cc_ne, cc_lt, cc_ge, cc_gt, cc_le, rfo, aof, csum, Value.category, List.take, List.drop, List.reverse, List.reverseAux, List.map, List.sum_cons, List.sum_nil, List.cons_append, List.nil_append, Option.toList, List.mem_cons, List.not_mem_nil, List.length_cons, List.length_nil, reduceIte, Nat.reduceEqDiff, Nat.reduceAdd, Nat.reduceLeDiff, Nat.reduceLT, a_day, Nat.zero_ne_one, Nat.one_ne_zero, false_and, and_false, true_and, and_true, or_false, false_or, or_true, true_or, not_true_eq_false, not_false_eq_true, Nat.zero_add, Nat.add_zero, Nat.le_refl, Nat.lt_irrefl, Nat.zero_lt_succ, Nat.zero_le, forall_const, List.cons.injEq, Value.int.injEq, Value.ref.injEq, Value.long.injEq, and_assoc, exists_and_left, exists_eq_left']
    try simp only [forall_eq]
    rw [nI_clamp (by omega)]
    exact ⟨m_76 hg, m_81 hg, vm l_81 hs (by decide), m_76 hg, m_80 hg, vm l_80 hs (by decide), h⟩
def T_X6_nameOf (g : WG) (as : List Value) (M : MM) (Q : Option Value → MM → Prop) : Prop := ∃ c s j, as = [.ref 76, .int (nI c), .int (nI s), .int j] ∧ c < 6 ∧ okM M ∧ s < dn (dm M) ∧ Q (some (.int (fct (dm M) s j c))) M
set_option maxRecDepth 100000 in
set_option maxHeartbeats 1000000 in
theorem t_X6_nameOf {l : Launch} {g : WG} (hg : Full g) : Ct l g yX6_nameOf cX6_nameOf 4 ((Option.some FieldType.int)) 2 (T_X6_nameOf g) := by
  refine Ct.of (by decide) (fun as M Q h => ?_) (fun p e s m args below meth c as M Q h C => ?_)
  · obtain ⟨c0, s0, j, rfl, hc, ho, hs, h⟩ := h; exact ⟨by simp, by simp [Value.category]⟩
  · obtain ⟨c0, s0, j, rfl, hc, ho, hs, h⟩ := h
    have hn := ho.n
    have hmany := ho.many
    have n0 : ∀ k, k < 6 → (nI c0 = nI k ↔ c0 = k) := fun k hk => nI_eq (by omega) (by omega)
    refine s_of (fun lv st M0 hs => ?_) (WX6_nameOf_0 C (t_X6_lengthOf hg) (by decide) (t_X6_whole hg) (by decide))
    obtain ⟨rfl, rfl, rfl⟩ := hs
    unfold BX6_nameOf_0
    simp only [T_X6_lengthOf, T_X6_whole, i_const, i_lconst, i_iload, i_aload, i_lload, i_istore, i_astore, i_lstore, i_iinc, i_bin, i_div, i_un, i_i2l, i_l2i, i_lbin, i_lcmp, i_if, i_icmp, i_dup, i_dup_x1, i_dup2, i_pop, i_geti, i_getr, i_getd, i_puti, i_putz, i_putd, i_iald, i_bald, i_aald, i_iast, i_bast, i_alen, i_keep, i_ret, i_retz, i_reta, i_retl, i_retv, i_callv, i_callk, i_calls, i_mm, i_copy, i_under, i_undld, i_ldcs, i_sw, q_swc0, q_swc1, q_lg0, q_lg1, q_lent0, q_lent1, lset, lset2, q_lins0, q_lins1, q_ldel0, q_ldel1, q_ldel20, q_ldel21, q_lkeep0, q_lkeep1, q_memb0, q_memb1, cat2, Nat.reduceBEq, decide_true, decide_false, decide_eq_true_eq, cond_true, cond_false, Bool.and_true, Bool.and_false, Bool.true_and, Bool.false_and, f_iadd, f_isub, f_imul, f_ishl, f_ishr, f_iushr, f_iand, f_ior, f_idiv, f_irem, f_ineg, f_i2b, f_i2s, f_ladd, f_lmul, c_eq, c_ne, c_lt, c_ge, c_gt, c_le, cc_eq, cc_ne, cc_lt, cc_ge, cc_gt, cc_le, rfo, aof, csum, Value.category, List.take, List.drop, List.reverse, List.reverseAux, List.map, List.sum_cons, List.sum_nil, List.cons_append, List.nil_append, Option.toList, List.mem_cons, List.not_mem_nil, List.length_cons, List.length_nil, reduceIte, Nat.reduceEqDiff, Nat.reduceAdd, Nat.reduceLeDiff, Nat.reduceLT, a_day, Nat.zero_ne_one, Nat.one_ne_zero, false_and, and_false, true_and, and_true, or_false, false_or, or_true, true_or, not_true_eq_false, not_false_eq_true, Nat.zero_add, Nat.add_zero, Nat.le_refl, Nat.lt_irrefl, Nat.zero_lt_succ, Nat.zero_le, forall_const, List.cons.injEq, Value.int.injEq, Value.ref.injEq, Value.long.injEq, and_assoc, exists_and_left, exists_eq_left']
    try simp only [forall_eq]
    have z0 := n0 0 (by decide)
    have z1 := n0 1 (by decide)
    have z2 := n0 2 (by decide)
    have z3 := n0 3 (by decide)
    have z4 := n0 4 (by decide)
    rw [nI_clamp (by omega)]
    refine ⟨fun e => ?_, fun e0 => ⟨fun e => ?_, fun e1 => ⟨fun e => ?_, fun e2 => ⟨fun e => ?_, fun e3 => ⟨fun e => ?_, fun e4 => ?_⟩⟩⟩⟩⟩
    · have := z0.mp e; subst this
      refine ⟨(m_76 hg).1, (m_76 hg).2.1, s0, rfl, by omega, ?_⟩
      rw [← dm_s (M := M0) 4 (by omega) (by omega) hs, ← dm_s (M := M0) 3 (by omega) (by omega) hs]; exact h
    · have := z1.mp e; subst this
      refine ⟨m_76 hg, m_82 hg, vm l_82 (by omega) (by decide), ?_⟩
      rw [← dm_s (M := M0) 5 (by omega) (by omega) hs]; exact h
    · have := z2.mp e; subst this
      refine ⟨m_76 hg, m_79 hg, vm l_79 (by omega) (by decide), ?_⟩
      rw [← dm_s (M := M0) 2 (by omega) (by omega) hs]; exact h
    · have := z3.mp e; subst this; exact h
    · have := z4.mp e; subst this; exact ⟨m_76 hg, h⟩
    · have : c0 = 5 := by
        have h0 : ¬ c0 = 0 := fun q => e0 (z0.mpr q)
        have h1 : ¬ c0 = 1 := fun q => e1 (z1.mpr q)
        have h2 : ¬ c0 = 2 := fun q => e2 (z2.mpr q)
        have h3 : ¬ c0 = 3 := fun q => e3 (z3.mpr q)
        have h4 : ¬ c0 = 4 := fun q => e4 (z4.mpr q)
        omega
      subst this
      exact ⟨(m_76 hg).1, (m_76 hg).2.1, hmany, hn, h⟩
def bth (c x y : Int32) : Int32 := if c = 6 then x + y else if c = 7 then x - y else if c = 8 then x * y else if c = 9 then b2i (x < y) else if c = 10 then b2i (x = y) else if c = 11 then b2i (¬ x = 0 ∧ ¬ y = 0) else b2i (¬ x = 0 ∨ ¬ y = 0)
def T_X6_both (g : WG) (as : List Value) (M : MM) (Q : Option Value → MM → Prop) : Prop := ∃ c x y, as = [.int c, .int x, .int y] ∧ Q (some (.int (bth c x y))) M
set_option maxRecDepth 100000 in
set_option maxHeartbeats 1000000 in
theorem t_X6_both {l : Launch} {g : WG} (hg : Full g) : Ct l g yX6_both cX6_both 3 ((Option.some FieldType.int)) 1 (T_X6_both g) := by
  refine Ct.of (by decide) (fun as M Q h => ?_) (fun p e s m args below meth c as M Q h C => ?_)
  · obtain ⟨c, x, y, rfl, h⟩ := h; exact ⟨by simp, by simp [Value.category]⟩
  · obtain ⟨c, x, y, rfl, h⟩ := h
    refine s_of (fun lv st M0 hs => ?_) (WX6_both_0 C)
    obtain ⟨rfl, rfl, rfl⟩ := hs
    unfold BX6_both_0
    simp only [i_const, i_lconst, i_iload, i_aload, i_lload, i_istore, i_astore, i_lstore, i_iinc, i_bin, i_div, i_un, i_i2l, i_l2i, i_lbin, i_lcmp, i_if, i_icmp, i_dup, i_dup_x1, i_dup2, i_pop, i_geti, i_getr, i_getd, i_puti, i_putz, i_putd, i_iald, i_bald, i_aald, i_iast, i_bast, i_alen, i_keep, i_ret, i_retz, i_reta, i_retl, i_retv, i_callv, i_callk, i_calls, i_mm, i_copy, i_under, i_undld, i_ldcs, i_sw, q_swc0, q_swc1, q_lg0, q_lg1, q_lent0, q_lent1, lset, lset2, q_lins0, q_lins1, q_ldel0, q_ldel1, q_ldel20, q_ldel21, q_lkeep0, q_lkeep1, q_memb0, q_memb1, cat2, Nat.reduceBEq, decide_true, decide_false, decide_eq_true_eq, cond_true, cond_false, Bool.and_true, Bool.and_false, Bool.true_and, Bool.false_and, f_iadd, f_isub, f_imul, f_ishl, f_ishr, f_iushr, f_iand, f_ior, f_idiv, f_irem, f_ineg, f_i2b, f_i2s, f_ladd, f_lmul, c_eq, c_ne, c_lt, c_ge, c_gt, c_le, cc_eq, cc_ne, cc_lt, cc_ge, cc_gt, cc_le, rfo, aof, csum, Value.category, List.take, List.drop, List.reverse, List.reverseAux, List.map, List.sum_cons, List.sum_nil, List.cons_append, List.nil_append, Option.toList, List.mem_cons, List.not_mem_nil, List.length_cons, List.length_nil, reduceIte, Nat.reduceEqDiff, Nat.reduceAdd, Nat.reduceLeDiff, Nat.reduceLT, a_day, Nat.zero_ne_one, Nat.one_ne_zero, false_and, and_false, true_and, and_true, or_false, false_or, or_true, true_or, not_true_eq_false, not_false_eq_true, Nat.zero_add, Nat.add_zero, Nat.le_refl, Nat.lt_irrefl, Nat.zero_lt_succ, Nat.zero_le, forall_const, List.cons.injEq, Value.int.injEq, Value.ref.injEq, Value.long.injEq, and_assoc, exists_and_left, exists_eq_left']
    try simp only [forall_eq]
    unfold bth at h
    refine ⟨fun e => ?_, fun e1 => ⟨fun e => ?_, fun e2 => ⟨fun e => ?_, fun e3 => ⟨fun e => ?_, fun e4 => ⟨fun e => ?_, fun e5 => ⟨fun e => ?_, fun e6 => ?_⟩⟩⟩⟩⟩⟩
    · rwa [if_pos e] at h
    · rwa [if_neg e1, if_pos e] at h
    · rwa [if_neg e1, if_neg e2, if_pos e] at h
    · rw [if_neg e1, if_neg e2, if_neg e3, if_pos e] at h
      refine ⟨fun z => ?_, fun z => ?_⟩
      · rwa [b2i_f (i_not_lt.mpr z)] at h
      · rwa [b2i_t (i_not_le.mp z)] at h
    · rw [if_neg e1, if_neg e2, if_neg e3, if_neg e4, if_pos e] at h
      refine ⟨fun z => ?_, fun z => ?_⟩
      · rwa [b2i_f z] at h
      · rwa [b2i_t (Decidable.not_not.mp z)] at h
    · rw [if_neg e1, if_neg e2, if_neg e3, if_neg e4, if_neg e5, if_pos e] at h
      refine ⟨fun z => ?_, fun z => ⟨fun w => ?_, fun w => ?_⟩⟩
      · rwa [b2i_f (fun q => q.1 z)] at h
      · rwa [b2i_f (fun q => q.2 w)] at h
      · rwa [b2i_t ⟨z, w⟩] at h
    · rw [if_neg e1, if_neg e2, if_neg e3, if_neg e4, if_neg e5, if_neg e6] at h
      refine ⟨fun z => ?_, fun z => ⟨fun w => ?_, fun w => ?_⟩⟩
      · rwa [b2i_t (Or.inl z)] at h
      · rwa [b2i_f (fun q => q.elim z (fun q => q w))] at h
      · rwa [b2i_t (Or.inr w)] at h
    
