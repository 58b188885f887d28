/-! ===== days run, in the model ===== -/
def pasN (X : XV) (D : DV) : Nat → DV
  | 0 => D
  | n + 1 => pasD X (pasN X D n)
def alw (X : XV) (D : DV) : Nat → Int32
  | 0 => 0
  | n + 1 => alw X D n + wor X (pasN X D (n + 1))
def wnb (X : XV) (D : DV) (s : Nat) : Nat → Int32
  | 0 => -1
  | n + 1 => if (pasB X (pasN X D n) >>> (nI s &&& 31)) &&& 1 = 1 then nI n else wnb X D s n
theorem dn_pas (X : XV) (D : DV) : dn (pasD X D) = dn D := by
  unfold dn pasD
  rw [dayD_eq, upF_nk (by decide), brn_ne (by decide), wr1_ne (by decide)]
theorem dn_pasN (X : XV) (D : DV) : ∀ n, dn (pasN X D n) = dn D
  | 0 => rfl
  | n + 1 => by show dn (pasD X (pasN X D n)) = _; rw [dn_pas, dn_pasN X D n]
theorem wfD_pasN {X : XV} {D : DV} {T : Nat} (h : wfD D T) : ∀ n, wfD (pasN X D n) T
  | 0 => h
  | n + 1 => wfD_pas (wfD_pasN h n)
def YR (a b : Nat) : Prop := a = 82 ∨ a = 83 ∨ (a = 76 ∧ (b = 0 ∨ b = 32 ∨ b = 36)) ∨ (89 ≤ a ∧ a ≤ 95)
def T_X6_runs (g : WG) (as : List Value) (M : MM) (Q : Option Value → MM → Prop) : Prop := ∃ n, as = [.ref 76, .int (nI n)] ∧ n ≤ 40 ∧ okM M ∧ (∀ s, s < 7 → M 83 s = 0 ∨ M 83 s = 1) ∧ ∀ M', Sm YR M M' → dm M' = pasN (xm M) (dm M) n → M' 76 36 = alw (xm M) (dm M) n → (∀ s, s < dn (dm M) → M' 95 s = wnb (xm M) (dm M) s n) → M' 76 32 = M 76 0 → (∀ s, s < 7 → M' 93 s = M 82 s ∧ M' 94 s = M 83 s) → Q none M'
set_option maxRecDepth 100000 in
set_option maxHeartbeats 2000000 in
theorem t_X6_runs {l : Launch} {g : WG} (hg : Full g) : Ct l g yX6_runs cX6_runs 5 ((Option.none : Option FieldType)) 8 (T_X6_runs g) := by
  refine Ct.of (by decide) (fun as M Q h => ?_) (fun p e s m args below meth c as M Q h C => ?_)
  · obtain ⟨nn, rfl, h40, ho, hz, h⟩ := h; exact ⟨by simp, by simp [Value.category]⟩
  · obtain ⟨nn, rfl, h40, ho, hz, h⟩ := h
    have hn := ho.n
    obtain ⟨Tn, hwf, htx, h9⟩ := id ho
    obtain ⟨D, hDe⟩ : ∃ D, dm M = D := ⟨_, rfl⟩
    obtain ⟨X, hXe⟩ : ∃ X, xm M = X := ⟨_, rfl⟩
    rw [hDe] at hn hwf
    rw [hDe, hXe] at h
    have key : ∀ M' : MM, Sm YR M M' → ∀ i, dm M' = pasN X D i → okM M' ∧ xm M' = X := by
      intro M' hs i hd
      obtain ⟨a, b⟩ := okM.to hs hd (wfD_pasN hwf i) htx h9 (by unfold YR; omega) (fun a b _ _ => by unfold YR; omega)
      exact ⟨a, b.trans hXe⟩
    obtain ⟨I11, hI11⟩ : ∃ I : Nat → PP, I = (fun n lv st M' => ∃ k, lv = [(0, .ref 76), (1, .int (nI nn)), (2, .int (nI k))] ∧ st = [] ∧ k ≤ 7 ∧ n = 7 - k ∧ Sm YR M M' ∧ dm M' = D ∧ M' 76 36 = 0 ∧ (∀ s, s < k → M' 95 s = -1) ∧ M' 76 32 = M 76 0 ∧ ∀ s, s < 7 → M' 93 s = M 82 s ∧ M' 94 s = M 83 s) := ⟨_, rfl⟩
    obtain ⟨E11, hE11⟩ : ∃ E : PP, E = (fun lv st M => ∃ n, I11 n lv st M) := ⟨_, rfl⟩
    have iE11 : ∀ n lv st M, I11 n lv st M → E11 lv st M := fun n lv st M h => by rw [hE11]; exact ⟨n, h⟩
    obtain ⟨I32, hI32⟩ : ∃ I : Nat → PP, I = (fun n lv st M' => ∃ i, lv = [(0, .ref 76), (1, .int (nI nn)), (2, .int (nI i))] ∧ st = [] ∧ i ≤ nn ∧ n = nn - i ∧ Sm YR M M' ∧ dm M' = pasN X D i ∧ M' 76 36 = alw X D i ∧ (∀ s, s < dn D → M' 95 s = wnb X D s i) ∧ M' 76 32 = M 76 0 ∧ ∀ s, s < 7 → M' 93 s = M 82 s ∧ M' 94 s = M 83 s) := ⟨_, rfl⟩
    obtain ⟨E32, hE32⟩ : ∃ E : PP, E = (fun lv st M => ∃ n, I32 n lv st M) := ⟨_, rfl⟩
    have iE32 : ∀ n lv st M, I32 n lv st M → E32 lv st M := fun n lv st M h => by rw [hE32]; exact ⟨n, h⟩
    obtain ⟨I45, hI45⟩ : ∃ I : PP → Nat → PP, I = (fun K n lv st M' => ∃ i k, lv = [(0, .ref 76), (1, .int (nI nn)), (2, .int (nI i)), (3, .int (pasB X (pasN X D i))), (4, .int (nI k))] ∧ st = [] ∧ i < nn ∧ k ≤ dn D ∧ n = dn D - k ∧ Sm YR M M' ∧ dm M' = pasN X D (i + 1) ∧ M' 76 36 = alw X D i ∧ (∀ s, s < dn D → M' 95 s = wnb X D s (if s < k then i + 1 else i)) ∧ M' 76 32 = M 76 0 ∧ (∀ s, s < 7 → M' 93 s = M 82 s ∧ M' 94 s = M 83 s) ∧ ∀ M2, Sm YR M M2 → dm M2 = pasN X D (i + 1) → M2 76 36 = alw X D (i + 1) → (∀ s, s < dn D → M2 95 s = wnb X D s (i + 1)) → M2 76 32 = M 76 0 → (∀ s, s < 7 → M2 93 s = M 82 s ∧ M2 94 s = M 83 s) → K [(0, .ref 76), (1, .int (nI nn)), (2, .int (nI (i + 1)))] [] M2) := ⟨_, rfl⟩
    have L45 : ∀ K32, Sj p l e 8 s m args below meth c 5 g (MQ below (cQc g Q) args s 0 0 (gA g)) 32 K32 → Sj p l e 8 s m args below meth c 5 g (MQ below (cQc g Q) args s 0 0 (gA g)) 45 (fun lv st M => ∃ n, I45 K32 n lv st M) := by
      intro K32 k32
      refine s_ex (s_loop (I45 K32) (fun K45 k45 => WX6_runs_45 C (t_X6_keeps hg) (by decide) (t_X6_passes hg) (by decide) (t_X6_worth hg) (by decide) s_F k32 k45) ?_)
      intro n lv st M1 K45 hK45 hI; rw [hI45] at hI; obtain ⟨i, k, rfl, rfl, hi, hk, rfl, hs, hd, h36, h95, h32, hv, hK⟩ := hI
      unfold BX6_runs_45
      generalize hB87 : BX6_runs_87 g Q (T_X6_keeps g) (T_X6_passes g) (T_X6_worth g) (fun _ _ _ => False) K32 K45 = B87
      simp only [T_X6_keeps, T_X6_passes, T_X6_worth, i_const, i_lconst, i_iload, i_aload, i_lload, i_istore, i_astore, i_lstore, i_iinc, i_bin, i_div, i_un, i_i2l, i_l2i, i_lbin, i_lcmp, i_if, i_icmp, i_dup, i_dup_x1, i_dup2, i_pop, i_geti, i_getr, i_getd, i_puti, i_putz, i_putd, i_iald, i_bald, i_aald, i_iast, i_bast, i_alen, i_keep, i_ret, i_retz, i_reta, i_retl, i_retv, i_callv, i_callk, i_calls, i_mm, i_copy, i_under, i_undld, i_ldcs, i_sw, q_swc0, q_swc1, q_lg0, q_lg1, q_lent0, q_lent1, lset, lset2, q_lins0, q_lins1, q_ldel0, q_ldel1, q_ldel20, q_ldel21, q_lkeep0, q_lkeep1, q_memb0, q_memb1, cat2, Nat.reduceBEq, decide_true, decide_false, decide_eq_true_eq, cond_true, cond_false, Bool.and_true, Bool.and_false, Bool.true_and, Bool.false_and, f_iadd, f_isub, f_imul, f_ishl, f_ishr, f_iushr, f_iand, f_ior, f_idiv, f_irem, f_ineg, f_i2b, f_i2s, f_ladd, f_lmul, c_eq, c_ne, c_lt, c_ge, c_gt, c_le, cc_eq, cc_ne, cc_lt, cc_ge, cc_gt, cc_le, rfo, aof, csum, Value.category, List.take, List.drop, List.reverse, List.reverseAux, List.map, List.sum_cons, List.sum_nil, List.cons_append, List.nil_append, Option.toList, List.mem_cons, List.not_mem_nil, List.length_cons, List.length_nil, reduceIte, Nat.reduceEqDiff, Nat.reduceAdd, Nat.reduceLeDiff, Nat.reduceLT, a_day, Nat.zero_ne_one, Nat.one_ne_zero, false_and, and_false, true_and, and_true, or_false, false_or, or_true, true_or, not_true_eq_false, not_false_eq_true, Nat.zero_add, Nat.add_zero, Nat.le_refl, Nat.lt_irrefl, Nat.zero_lt_succ, Nat.zero_le, forall_const, List.cons.injEq, Value.int.injEq, Value.ref.injEq, Value.long.injEq, and_assoc, exists_and_left, exists_eq_left']
      try simp only [forall_eq]
      obtain ⟨ko, kx⟩ := key M1 hs (i + 1) hd
      have h61 := ko.many
      rw [hd, dn_pasN] at h61
      rw [h61, nI_leI (by omega) (by omega), hd, kx, nI_clamp (by omega), nI_1]
      refine ⟨m_76 hg, fun z => ?_, fun z => ⟨fun y => ?_, fun y => ?_⟩⟩
      · have e : k = dn D := by omega
        subst e
        refine ⟨m_76 hg, (m_76 hg).1, (m_76 hg).2.1, ko, fun M2 hs2 hl2 => ?_⟩
        have f2 : ∀ a b, ¬ YL a b → M2 a b = M1 a b := fun a b q => hs2 a b q
        obtain ⟨-, kd2, -⟩ := keepM hs2 YL88 ko
        subst hB87
        unfold BX6_runs_87
        simp only [T_X6_keeps, T_X6_passes, T_X6_worth, i_const, i_lconst, i_iload, i_aload, i_lload, i_istore, i_astore, i_lstore, i_iinc, i_bin, i_div, i_un, i_i2l, i_l2i, i_lbin, i_lcmp, i_if, i_icmp, i_dup, i_dup_x1, i_dup2, i_pop, i_geti, i_getr, i_getd, i_puti, i_putz, i_putd, i_iald, i_bald, i_aald, i_iast, i_bast, i_alen, i_keep, i_ret, i_retz, i_reta, i_retl, i_retv, i_callv, i_callk, i_calls, i_mm, i_copy, i_under, i_undld, i_ldcs, i_sw, q_swc0, q_swc1, q_lg0, q_lg1, q_lent0, q_lent1, lset, lset2, q_lins0, q_lins1, q_ldel0, q_ldel1, q_ldel20, q_ldel21, q_lkeep0, q_lkeep1, q_memb0, q_memb1, cat2, Nat.reduceBEq, decide_true, decide_false, decide_eq_true_eq, cond_true, cond_false, Bool.and_true, Bool.and_false, Bool.true_and, Bool.false_and, f_iadd, f_isub, f_imul, f_ishl, f_ishr, f_iushr, f_iand, f_ior, f_idiv, f_irem, f_ineg, f_i2b, f_i2s, f_ladd, f_lmul, c_eq, c_ne, c_lt, c_ge, c_gt, c_le, cc_eq, cc_ne, cc_lt, cc_ge, cc_gt, cc_le, rfo, aof, csum, Value.category, List.take, List.drop, List.reverse, List.reverseAux, List.map, List.sum_cons, List.sum_nil, List.cons_append, List.nil_append, Option.toList, List.mem_cons, List.not_mem_nil, List.length_cons, List.length_nil, reduceIte, Nat.reduceEqDiff, Nat.reduceAdd, Nat.reduceLeDiff, Nat.reduceLT, a_day, Nat.zero_ne_one, Nat.one_ne_zero, false_and, and_false, true_and, and_true, or_false, false_or, or_true, true_or, not_true_eq_false, not_false_eq_true, Nat.zero_add, Nat.add_zero, Nat.le_refl, Nat.lt_irrefl, Nat.zero_lt_succ, Nat.zero_le, forall_const, List.cons.injEq, Value.int.injEq, Value.ref.injEq, Value.long.injEq, and_assoc, exists_and_left, exists_eq_left']
        try simp only [forall_eq]
        rw [nI_1]
        refine ⟨m_76 hg, hK _ ((hs.tr (hs2.mono fun a b q => by unfold YL at q; unfold YR; omega)).set _ (by unfold YR; omega)) ?_ ?_ (fun s h1 => ?_) ?_ (fun s h1 => ?_)⟩
        · rw [dm_sm (Y := fun a b => a = 76 ∧ b = 36) (Sm.rf.set _ ⟨rfl, rfl⟩) (fun j => by omega) (fun j hj => by omega) (fun f s _ _ _ => by omega) (by rw [kd2, hd, dn_pasN]; exact hn), kd2, hd]
        · rw [ms_s, h36]; rfl
        · rw [ms_q (by decide), f2 _ _ (by unfold YL; omega), h95 s h1, if_pos h1]
        · rw [ms_j (by decide), f2 _ _ (by unfold YL; omega)]; exact h32
        · rw [ms_q (by decide), ms_q (by decide), f2 _ _ (by unfold YL; omega), f2 _ _ (by unfold YL; omega)]; exact hv s h1
      · refine hK45 (dn D - (k + 1)) _ _ _ (by omega) ?_
        rw [hI45]
        refine ⟨i, k + 1, rfl, rfl, hi, by omega, rfl, hs, hd, h36, fun s h1 => ?_, h32, hv, hK⟩
        rw [h95 s h1]
        by_cases e : s = k
        · subst e
          rw [if_neg (by omega), if_pos (by omega)]
          simp only [wnb, if_neg y]
        · by_cases q : s < k
          · rw [if_pos q, if_pos (by omega)]
          · rw [if_neg q, if_neg (by omega)]
      · have hlt : k < dn D := by omega
        refine ⟨m_76 hg, m_95 hg, vm l_95 (by omega) (by decide), hK45 (dn D - (k + 1)) _ _ _ (by omega) ?_⟩
        rw [hI45]
        refine ⟨i, k + 1, rfl, rfl, hi, by omega, rfl, hs.set _ (by unfold YR; omega), ?_, by rw [ms_q (by decide)]; exact h36, fun s h1 => ?_, by rw [ms_q (by decide)]; exact h32, fun s h1 => by rw [ms_q (by decide), ms_q (by decide)]; exact hv s h1, hK⟩
        · rw [← hd]
          exact dm_sm (Y := fun a _ => a = 95) (Sm.rf.set _ rfl) (fun j => by omega) (fun j hj => by omega) (fun f s _ _ _ => by omega) (by rw [hd, dn_pasN]; exact hn)
        · by_cases e : s = k
          · subst e
            rw [ms_s, if_pos (by omega)]
            simp only [wnb, if_pos (Decidable.not_not.mp y)]
          · rw [ms_j e, h95 s h1]
            by_cases q : s < k
            · rw [if_pos q, if_pos (by omega)]
            · rw [if_neg q, if_neg (by omega)]
      
    have L32 : Sj p l e 8 s m args below meth c 5 g (MQ below (cQc g Q) args s 0 0 (gA g)) 32 E32 := by
      rw [hE32]
      refine s_ex (s_loop I32 (fun K32 k32 => WX6_runs_32 C (t_X6_keeps hg) (by decide) (t_X6_passes hg) (by decide) (t_X6_worth hg) (by decide) s_F k32 (L45 _ k32)) ?_)
      intro n lv st M1 K32 hK32 hI; rw [hI32] at hI; obtain ⟨i, rfl, rfl, hi, rfl, hs, hd, h36, h95, h32, hv⟩ := hI
      generalize hE45 : (fun lv st M => ∃ n, I45 K32 n lv st M) = E45
      have iE45 : ∀ n lv st M, I45 K32 n lv st M → E45 lv st M := fun n lv st M h => by rw [← hE45]; exact ⟨n, h⟩
      unfold BX6_runs_32
      generalize hB41 : BX6_runs_41 g Q (T_X6_keeps g) (T_X6_passes g) (T_X6_worth g) (fun _ _ _ => False) K32 E45 = B41
      simp only [T_X6_keeps, T_X6_passes, T_X6_worth, i_const, i_lconst, i_iload, i_aload, i_lload, i_istore, i_astore, i_lstore, i_iinc, i_bin, i_div, i_un, i_i2l, i_l2i, i_lbin, i_lcmp, i_if, i_icmp, i_dup, i_dup_x1, i_dup2, i_pop, i_geti, i_getr, i_getd, i_puti, i_putz, i_putd, i_iald, i_bald, i_aald, i_iast, i_bast, i_alen, i_keep, i_ret, i_retz, i_reta, i_retl, i_retv, i_callv, i_callk, i_calls, i_mm, i_copy, i_under, i_undld, i_ldcs, i_sw, q_swc0, q_swc1, q_lg0, q_lg1, q_lent0, q_lent1, lset, lset2, q_lins0, q_lins1, q_ldel0, q_ldel1, q_ldel20, q_ldel21, q_lkeep0, q_lkeep1, q_memb0, q_memb1, cat2, Nat.reduceBEq, decide_true, decide_false, decide_eq_true_eq, cond_true, cond_false, Bool.and_true, Bool.and_false, Bool.true_and, Bool.false_and, f_iadd, f_isub, f_imul, f_ishl, f_ishr, f_iushr, f_iand, f_ior, f_idiv, f_irem, f_ineg, f_i2b, f_i2s, f_ladd, f_lmul, c_eq, c_ne, c_lt, c_ge, c_gt, c_le, cc_eq, cc_ne, cc_lt, cc_ge, cc_gt, cc_le, rfo, aof, csum, Value.category, List.take, List.drop, List.reverse, List.reverseAux, List.map, List.sum_cons, List.sum_nil, List.cons_append, List.nil_append, Option.toList, List.mem_cons, List.not_mem_nil, List.length_cons, List.length_nil, reduceIte, Nat.reduceEqDiff, Nat.reduceAdd, Nat.reduceLeDiff, Nat.reduceLT, a_day, Nat.zero_ne_one, Nat.one_ne_zero, false_and, and_false, true_and, and_true, or_false, false_or, or_true, true_or, not_true_eq_false, not_false_eq_true, Nat.zero_add, Nat.add_zero, Nat.le_refl, Nat.lt_irrefl, Nat.zero_lt_succ, Nat.zero_le, forall_const, List.cons.injEq, Value.int.injEq, Value.ref.injEq, Value.long.injEq, and_assoc, exists_and_left, exists_eq_left']
      try simp only [forall_eq]
      obtain ⟨ko, kx⟩ := key M1 hs i hd
      have hseq : ∀ a b : Nat, a ≤ 40 → b ≤ 40 → (nI a ≤ nI b ↔ a ≤ b) := fun a b h1 h2 => nI_leI (by omega) (by omega)
      rw [hseq nn i h40 (by omega), hd, kx]
      refine ⟨fun z => ?_, fun z => ⟨(m_76 hg).1, (m_76 hg).2.1, ko, fun M2 hs2 hd2 => ?_⟩⟩
      · have e : i = nn := by omega
        subst e
        exact h M1 hs hd h36 h95 h32 hv
      · subst hB41
        unfold BX6_runs_41
        simp only [T_X6_keeps, T_X6_passes, T_X6_worth, i_const, i_lconst, i_iload, i_aload, i_lload, i_istore, i_astore, i_lstore, i_iinc, i_bin, i_div, i_un, i_i2l, i_l2i, i_lbin, i_lcmp, i_if, i_icmp, i_dup, i_dup_x1, i_dup2, i_pop, i_geti, i_getr, i_getd, i_puti, i_putz, i_putd, i_iald, i_bald, i_aald, i_iast, i_bast, i_alen, i_keep, i_ret, i_retz, i_reta, i_retl, i_retv, i_callv, i_callk, i_calls, i_mm, i_copy, i_under, i_undld, i_ldcs, i_sw, q_swc0, q_swc1, q_lg0, q_lg1, q_lent0, q_lent1, lset, lset2, q_lins0, q_lins1, q_ldel0, q_ldel1, q_ldel20, q_ldel21, q_lkeep0, q_lkeep1, q_memb0, q_memb1, cat2, Nat.reduceBEq, decide_true, decide_false, decide_eq_true_eq, cond_true, cond_false, Bool.and_true, Bool.and_false, Bool.true_and, Bool.false_and, f_iadd, f_isub, f_imul, f_ishl, f_ishr, f_iushr, f_iand, f_ior, f_idiv, f_irem, f_ineg, f_i2b, f_i2s, f_ladd, f_lmul, c_eq, c_ne, c_lt, c_ge, c_gt, c_le, cc_eq, cc_ne, cc_lt, cc_ge, cc_gt, cc_le, rfo, aof, csum, Value.category, List.take, List.drop, List.reverse, List.reverseAux, List.map, List.sum_cons, List.sum_nil, List.cons_append, List.nil_append, Option.toList, List.mem_cons, List.not_mem_nil, List.length_cons, List.length_nil, reduceIte, Nat.reduceEqDiff, Nat.reduceAdd, Nat.reduceLeDiff, Nat.reduceLT, a_day, Nat.zero_ne_one, Nat.one_ne_zero, false_and, and_false, true_and, and_true, or_false, false_or, or_true, true_or, not_true_eq_false, not_false_eq_true, Nat.zero_add, Nat.add_zero, Nat.le_refl, Nat.lt_irrefl, Nat.zero_lt_succ, Nat.zero_le, forall_const, List.cons.injEq, Value.int.injEq, Value.ref.injEq, Value.long.injEq, and_assoc, exists_and_left, exists_eq_left']
        try simp only [forall_eq]
        have hs2 : Sm YW M1 M2 := hs2.mono YWn_W
        have f2 : ∀ a b, ¬ YW a b → M2 a b = M1 a b := fun a b q => hs2 a b q
        refine iE45 (dn D - 0) _ _ _ ?_
        rw [hI45]
        refine ⟨i, 0, rfl, rfl, by omega, by omega, rfl, hs.tr (hs2.mono fun a b q => by unfold YW at q; unfold YR; omega), hd2, ?_, fun s h1 => ?_, ?_, fun s h1 => ?_, fun M3 hs3 hd3 g36 g95 g32 gv => ?_⟩
        · rw [f2 _ _ (by unfold YW; omega)]; exact h36
        · rw [f2 _ _ (by unfold YW; omega), if_neg (by omega)]; exact h95 s h1
        · rw [f2 _ _ (by unfold YW; omega)]; exact h32
        · rw [f2 _ _ (by unfold YW; omega), f2 _ _ (by unfold YW; omega)]; exact hv s h1
        · refine hK32 (nn - (i + 1)) _ _ _ (by omega) ?_
          rw [hI32]
          exact ⟨i + 1, rfl, rfl, by omega, rfl, hs3, hd3, g36, g95, g32, gv⟩
    have L11 : Sj p l e 8 s m args below meth c 5 g (MQ below (cQc g Q) args s 0 0 (gA g)) 11 E11 := by
      rw [hE11]
      refine s_ex (s_loop I11 (fun K11 k11 => WX6_runs_11 C (t_X6_keeps hg) (by decide) (t_X6_passes hg) (by decide) (t_X6_worth hg) (by decide) k11 L32 s_F) ?_)
      intro n lv st M1 K11 hK11 hI; rw [hI11] at hI; obtain ⟨k, rfl, rfl, hk, rfl, hs, hd, h36, h95, h32, hv⟩ := hI
      unfold BX6_runs_11
      simp only [T_X6_keeps, T_X6_passes, T_X6_worth, i_const, i_lconst, i_iload, i_aload, i_lload, i_istore, i_astore, i_lstore, i_iinc, i_bin, i_div, i_un, i_i2l, i_l2i, i_lbin, i_lcmp, i_if, i_icmp, i_dup, i_dup_x1, i_dup2, i_pop, i_geti, i_getr, i_getd, i_puti, i_putz, i_putd, i_iald, i_bald, i_aald, i_iast, i_bast, i_alen, i_keep, i_ret, i_retz, i_reta, i_retl, i_retv, i_callv, i_callk, i_calls, i_mm, i_copy, i_under, i_undld, i_ldcs, i_sw, q_swc0, q_swc1, q_lg0, q_lg1, q_lent0, q_lent1, lset, lset2, q_lins0, q_lins1, q_ldel0, q_ldel1, q_ldel20, q_ldel21, q_lkeep0, q_lkeep1, q_memb0, q_memb1, cat2, Nat.reduceBEq, decide_true, decide_false, decide_eq_true_eq, cond_true, cond_false, Bool.and_true, Bool.and_false, Bool.true_and, Bool.false_and, f_iadd, f_isub, f_imul, f_ishl, f_ishr, f_iushr, f_iand, f_ior, f_idiv, f_irem, f_ineg, f_i2b, f_i2s, f_ladd, f_lmul, c_eq, c_ne, c_lt, c_ge, c_gt, c_le, cc_eq, cc_ne, cc_lt, cc_ge, cc_gt, cc_le, rfo, aof, csum, Value.category, List.take, List.drop, List.reverse, List.reverseAux, List.map, List.sum_cons, List.sum_nil, List.cons_append, List.nil_append, Option.toList, List.mem_cons, List.not_mem_nil, List.length_cons, List.length_nil, reduceIte, Nat.reduceEqDiff, Nat.reduceAdd, Nat.reduceLeDiff, Nat.reduceLT, a_day, Nat.zero_ne_one, Nat.one_ne_zero, false_and, and_false, true_and, and_true, or_false, false_or, or_true, true_or, not_true_eq_false, not_false_eq_true, Nat.zero_add, Nat.add_zero, Nat.le_refl, Nat.lt_irrefl, Nat.zero_lt_succ, Nat.zero_le, forall_const, List.cons.injEq, Value.int.injEq, Value.ref.injEq, Value.long.injEq, and_assoc, exists_and_left, exists_eq_left']
      try simp only [forall_eq]
      rw [show (7 : Int32) = nI 7 from rfl, nI_leI (by decide) (by omega)]
      refine ⟨fun z => ?_, fun z => ?_⟩
      · refine iE32 (nn - 0) _ _ _ ?_
        rw [hI32]
        exact ⟨0, rfl, rfl, by omega, rfl, hs, hd, h36, fun s hs => h95 s (by omega), h32, hv⟩
      · have hlt : k < 7 := by omega
        rw [nI_clamp (by omega), nI_1]
        refine ⟨m_76 hg, m_95 hg, vm l_95 hlt (by decide), hK11 (7 - (k + 1)) _ _ _ (by omega) ?_⟩
        rw [hI11]
        refine ⟨k + 1, rfl, rfl, by omega, rfl, hs.set _ (by unfold YR; omega), ?_, by rw [ms_q (by decide)]; exact h36, fun s h1 => ?_, by rw [ms_q (by decide)]; exact h32, fun s hs => by rw [ms_q (by decide), ms_q (by decide)]; exact hv s hs⟩
        · rw [← hd]
          exact dm_sm (Y := fun a _ => a = 95) (Sm.rf.set _ rfl) (fun j => by omega) (fun j hj => by omega) (fun f s _ _ _ => by omega) (by rw [hd]; exact hn)
        · by_cases e : s = k
          · subst e; rw [ms_s]
          · rw [ms_j e]; exact h95 s (by omega)
    refine s_of (fun lv st M0 hs => ?_) (WX6_runs_0 C (t_X6_keeps hg) (by decide) (t_X6_passes hg) (by decide) (t_X6_worth hg) (by decide) L11 L32 s_F)
    obtain ⟨rfl, rfl, rfl⟩ := hs
    unfold BX6_runs_0
    generalize hB4 : BX6_runs_4 g Q (T_X6_keeps g) (T_X6_passes g) (T_X6_worth g) E11 E32 (fun _ _ _ => False) = B4
    simp only [T_X6_keeps, T_X6_passes, T_X6_worth, i_const, i_lconst, i_iload, i_aload, i_lload, i_istore, i_astore, i_lstore, i_iinc, i_bin, i_div, i_un, i_i2l, i_l2i, i_lbin, i_lcmp, i_if, i_icmp, i_dup, i_dup_x1, i_dup2, i_pop, i_geti, i_getr, i_getd, i_puti, i_putz, i_putd, i_iald, i_bald, i_aald, i_iast, i_bast, i_alen, i_keep, i_ret, i_retz, i_reta, i_retl, i_retv, i_callv, i_callk, i_calls, i_mm, i_copy, i_under, i_undld, i_ldcs, i_sw, q_swc0, q_swc1, q_lg0, q_lg1, q_lent0, q_lent1, lset, lset2, q_lins0, q_lins1, q_ldel0, q_ldel1, q_ldel20, q_ldel21, q_lkeep0, q_lkeep1, q_memb0, q_memb1, cat2, Nat.reduceBEq, decide_true, decide_false, decide_eq_true_eq, cond_true, cond_false, Bool.and_true, Bool.and_false, Bool.true_and, Bool.false_and, f_iadd, f_isub, f_imul, f_ishl, f_ishr, f_iushr, f_iand, f_ior, f_idiv, f_irem, f_ineg, f_i2b, f_i2s, f_ladd, f_lmul, c_eq, c_ne, c_lt, c_ge, c_gt, c_le, cc_eq, cc_ne, cc_lt, cc_ge, cc_gt, cc_le, rfo, aof, csum, Value.category, List.take, List.drop, List.reverse, List.reverseAux, List.map, List.sum_cons, List.sum_nil, List.cons_append, List.nil_append, Option.toList, List.mem_cons, List.not_mem_nil, List.length_cons, List.length_nil, reduceIte, Nat.reduceEqDiff, Nat.reduceAdd, Nat.reduceLeDiff, Nat.reduceLT, a_day, Nat.zero_ne_one, Nat.one_ne_zero, false_and, and_false, true_and, and_true, or_false, false_or, or_true, true_or, not_true_eq_false, not_false_eq_true, Nat.zero_add, Nat.add_zero, Nat.le_refl, Nat.lt_irrefl, Nat.zero_lt_succ, Nat.zero_le, forall_const, List.cons.injEq, Value.int.injEq, Value.ref.injEq, Value.long.injEq, and_assoc, exists_and_left, exists_eq_left']
    try simp only [forall_eq]
    refine ⟨(m_76 hg).1, (m_76 hg).2.1, hz, fun M1 hs1 h32 hv => ?_⟩
    subst hB4
    unfold BX6_runs_4
    simp only [T_X6_keeps, T_X6_passes, T_X6_worth, i_const, i_lconst, i_iload, i_aload, i_lload, i_istore, i_astore, i_lstore, i_iinc, i_bin, i_div, i_un, i_i2l, i_l2i, i_lbin, i_lcmp, i_if, i_icmp, i_dup, i_dup_x1, i_dup2, i_pop, i_geti, i_getr, i_getd, i_puti, i_putz, i_putd, i_iald, i_bald, i_aald, i_iast, i_bast, i_alen, i_keep, i_ret, i_retz, i_reta, i_retl, i_retv, i_callv, i_callk, i_calls, i_mm, i_copy, i_under, i_undld, i_ldcs, i_sw, q_swc0, q_swc1, q_lg0, q_lg1, q_lent0, q_lent1, lset, lset2, q_lins0, q_lins1, q_ldel0, q_ldel1, q_ldel20, q_ldel21, q_lkeep0, q_lkeep1, q_memb0, q_memb1, cat2, Nat.reduceBEq, decide_true, decide_false, decide_eq_true_eq, cond_true, cond_false, Bool.and_true, Bool.and_false, Bool.true_and, Bool.false_and, f_iadd, f_isub, f_imul, f_ishl, f_ishr, f_iushr, f_iand, f_ior, f_idiv, f_irem, f_ineg, f_i2b, f_i2s, f_ladd, f_lmul, c_eq, c_ne, c_lt, c_ge, c_gt, c_le, cc_eq, cc_ne, cc_lt, cc_ge, cc_gt, cc_le, rfo, aof, csum, Value.category, List.take, List.drop, List.reverse, List.reverseAux, List.map, List.sum_cons, List.sum_nil, List.cons_append, List.nil_append, Option.toList, List.mem_cons, List.not_mem_nil, List.length_cons, List.length_nil, reduceIte, Nat.reduceEqDiff, Nat.reduceAdd, Nat.reduceLeDiff, Nat.reduceLT, a_day, Nat.zero_ne_one, Nat.one_ne_zero, false_and, and_false, true_and, and_true, or_false, false_or, or_true, true_or, not_true_eq_false, not_false_eq_true, Nat.zero_add, Nat.add_zero, Nat.le_refl, Nat.lt_irrefl, Nat.zero_lt_succ, Nat.zero_le, forall_const, List.cons.injEq, Value.int.injEq, Value.ref.injEq, Value.long.injEq, and_assoc, exists_and_left, exists_eq_left']
    try simp only [forall_eq]
    have hs1R : Sm YR M0 M1 := hs1.mono fun a b q => by unfold YK at q; unfold YR; omega
    refine ⟨m_76 hg, iE11 (7 - 0) _ _ _ ?_⟩
    rw [hI11]
    refine ⟨0, rfl, rfl, by omega, rfl, hs1R.set _ (by unfold YR; omega), ?_, ms_s _ _ _ _, fun s hs => absurd hs (by omega), by rw [ms_j (by decide)]; exact h32, fun s hs => by rw [ms_q (by decide), ms_q (by decide)]; exact hv s hs⟩
    rw [← hDe]
    exact dm_sm (Y := fun a b => YK a b ∨ (a = 76 ∧ b = 36)) ((hs1.mono fun a b q => Or.inl q).set _ (Or.inr ⟨rfl, rfl⟩)) (fun j => by unfold YK; omega) (fun j hj => by unfold YK; omega) (fun f s _ _ _ => by unfold YK; omega) (by rw [hDe]; exact hn)
