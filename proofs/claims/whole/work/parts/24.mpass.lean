/-! ===== the model's day passes ===== -/
def YW (a b : Nat) : Prop := a = 82 ∨ a = 83 ∨ (a = 76 ∧ b = 0) ∨ (89 ≤ a ∧ a ≤ 92)
/-- the same, but burst only of the first n -/
def YWn (n a b : Nat) : Prop := a = 82 ∨ (a = 83 ∧ b < n) ∨ (a = 76 ∧ b = 0) ∨ (89 ≤ a ∧ a ≤ 92)
theorem YWn_W {n : Nat} : ∀ a b, YWn n a b → YW a b := fun a b q => by unfold YWn at q; unfold YW; omega
theorem dm_set {M : MM} {f k : Nat} {x : Int32} (h0 : 0 < f) (h7 : f < 7) (hk : k < dn (dm M)) : dm (mset M (77 + f) k x) = upF (dm M) f k x := by
  rw [dm_n] at hk
  funext f' i
  have a1 : ¬ 77 = 77 + f := by omega
  have a2 : ¬ 76 = 77 + f := by omega
  simp only [dm, upF, mset_app, a1, a2, if_false]
  by_cases g0 : f' = 0
  · have : ¬ f' = f := by omega
    simp [g0, show ¬ 0 = f by omega]
  · by_cases g7 : f' < 7
    · simp only [g0, g7, if_true, if_false]
      by_cases hi : i < (M 76 2).toNatClampNeg
      · simp only [hi, if_true]
        by_cases hf : f' = f
        · subst hf; simp
        · have : ¬ 77 + f' = 77 + f := by omega
          simp [hf, this]
      · have : ¬ i = k := by omega
        simp [hi, this]
    · have : ¬ f' = f := by omega
      simp [g0, g7, this]
theorem dm_set0 {M : MM} {x : Int32} : dm (mset M 76 0 x) = upF (dm M) 7 1 x := by
  funext f i
  have a1 : ¬ 77 = 76 := by omega
  have a2 : ∀ f, ¬ 77 + f = 76 := by intro f; omega
  simp only [dm, upF, mset_app, a1, a2, if_false, if_true]
  by_cases h7 : f = 7
  · subst h7
    by_cases h1 : i = 1
    · subst h1; simp
    · simp [h1]
  · simp [h7]
theorem dm_setj {M : MM} {k : Nat} {x : Int32} (hk : k < 16) : dm (mset M 77 k x) = upF (dm M) 0 k x := by
  funext f i
  have a1 : ¬ 76 = 77 := by omega
  simp only [dm, upF, mset_app, a1, if_false, if_true]
  by_cases h0 : f = 0
  · subst h0
    by_cases h1 : i = k
    · subst h1; simp [hk]
    · simp [h1]
  · have : ¬ 77 + f = 77 := by omega
    simp [h0, this]
/-- another day upon the same texts -/
theorem okM.to {Y : Nat → Nat → Prop} {M M' : MM} {T : Nat} {D' : DV} (h : Sm Y M M') (hd : dm M' = D') (hw : wfD D' T) (htx : ∀ t, t < T → mtx M t) (h9 : ∃ t, t < T ∧ M 76 9 = nI t) (y9 : ¬ Y 76 9) (y : ∀ a b, 85 ≤ a → a ≤ 87 → ¬ Y a b) : okM M' ∧ xm M' = xm M := by
  have e5 : M' 85 = M 85 := funext fun j => h _ _ (y _ _ (by decide) (by decide))
  have e6 : M' 86 = M 86 := funext fun j => h _ _ (y _ _ (by decide) (by decide))
  have e7 : M' 87 = M 87 := funext fun j => h _ _ (y _ _ (by decide) (by decide))
  obtain ⟨t, ht, e⟩ := h9
  exact ⟨⟨T, by rw [hd]; exact hw, fun t ht => mtx_eq e5 e6 e7 (htx t ht), t, ht, by rw [h 76 9 y9]; exact e⟩, xm_eq e5 e6 e7⟩
theorem cap_bnd {x v : Int32} (hx : isN x 10000) (hv : isN v 100) : bnd (x + v) 9999 = cap (x + v) := by
  obtain ⟨a, ha, rfl⟩ := hx
  obtain ⟨b, hb, rfl⟩ := hv
  unfold bnd cap
  rw [nI_add, show (9999 : Int32) = nI 9999 from rfl, if_neg (i_not_lt.mpr (nI_pos' (by omega)))]
  by_cases h : a + b < 9999
  · rw [if_pos ((nI_ltI (by omega) (by omega)).mpr h), if_neg]
    exact i_not_lt.mpr (nI_le (by omega) (by omega))
  · rw [if_neg (fun q => h ((nI_ltI (by omega) (by omega)).mp q))]
    by_cases e : a + b = 9999
    · rw [e, ite_self]
    · rw [if_pos ((nI_ltI (by omega) (by omega)).mpr (by omega))]
def T_X6_passes (g : WG) (as : List Value) (M : MM) (Q : Option Value → MM → Prop) : Prop := as = [.ref 76] ∧ okM M ∧ ∀ M', Sm (YWn (dn (dm M))) M M' → dm M' = pasD (xm M) (dm M) → Q (some (.int (pasB (xm M) (dm M)))) M'
set_option maxRecDepth 100000 in
set_option maxHeartbeats 2000000 in
theorem t_X6_passes {l : Launch} {g : WG} (hg : Full g) : Ct l g yX6_passes cX6_passes 3 ((Option.some FieldType.int)) 5 (T_X6_passes g) := by
  refine Ct.of (by decide) (fun as M Q h => ?_) (fun p e s m args below meth c as M Q h C => ?_)
  · obtain ⟨rfl, ho, h⟩ := h; exact ⟨by simp, by simp [Value.category]⟩
  · obtain ⟨rfl, ho, h⟩ := h
    have hn := ho.n
    obtain ⟨Tn, hwf, htx, h9⟩ := id ho
    obtain ⟨D, hDe⟩ : ∃ D, dm M = D := ⟨_, rfl⟩
    obtain ⟨X, hXe⟩ : ∃ X, xm M = X := ⟨_, rfl⟩
    rw [hDe] at hn hwf
    rw [hDe, hXe] at h
    have key : ∀ M' : MM, Sm YW M M' → ∀ D', dm M' = D' → wfD D' Tn → okM M' ∧ xm M' = X := by
      intro M' hs D' hd hw
      obtain ⟨a, b⟩ := okM.to hs hd hw htx h9 (by unfold YW; omega) (fun a b _ _ => by unfold YW; omega)
      exact ⟨a, b.trans hXe⟩
    have hw1 : ∀ k, k ≤ dn D → wfD (wr1 X D k) Tn := fun k hk => wfD_wr1 hwf hk
    obtain ⟨D1, hD1⟩ : ∃ D1, wr1 X D (dn D) = D1 := ⟨_, rfl⟩
    have hwf1 : wfD D1 Tn := by rw [← hD1]; exact hw1 _ (Nat.le_refl _)
    have hn1 : ∀ k, dn (wr1 X D k) = dn D := fun k => by unfold dn; rw [wr1_ne (by decide)]
    have hnb : ∀ k, dn (brn X D1 k) = dn D := fun k => by unfold dn; rw [brn_ne (by decide), ← hD1, wr1_ne (by decide)]
    obtain ⟨I2, hI2⟩ : ∃ I : Nat → PP, I = (fun n lv st M' => ∃ k, lv = [(0, .ref 76), (1, .int (nI k))] ∧ st = [] ∧ k ≤ dn D ∧ n = dn D - k ∧ Sm (YWn (dn D)) M M' ∧ dm M' = wr1 X D k) := ⟨_, rfl⟩
    obtain ⟨E2, hE2⟩ : ∃ E : PP, E = (fun lv st M => ∃ n, I2 n lv st M) := ⟨_, rfl⟩
    have iE2 : ∀ n lv st M, I2 n lv st M → E2 lv st M := fun n lv st M h => by rw [hE2]; exact ⟨n, h⟩
    obtain ⟨I53, hI53⟩ : ∃ I : Nat → PP, I = (fun n lv st M' => ∃ k, lv = [(0, .ref 76), (1, .int (bbn X D1 k)), (2, .int (nI k))] ∧ st = [] ∧ k ≤ dn D ∧ n = dn D - k ∧ Sm (YWn (dn D)) M M' ∧ dm M' = brn X D1 k) := ⟨_, rfl⟩
    obtain ⟨E53, hE53⟩ : ∃ E : PP, E = (fun lv st M => ∃ n, I53 n lv st M) := ⟨_, rfl⟩
    have iE53 : ∀ n lv st M, I53 n lv st M → E53 lv st M := fun n lv st M h => by rw [hE53]; exact ⟨n, h⟩
    have L53 : Sj p l e 5 s m args below meth c 3 g (MQ below (cQc g Q) args s 0 0 (gA g)) 53 E53 := by
      rw [hE53]
      refine s_ex (s_loop I53 (fun K53 k53 => WX6_passes_53 C (t_X6_wears hg) (by decide) (t_X6_bound hg) (by decide) (t_X6_stands hg) (by decide) s_F k53) ?_)
      intro n lv st M1 K53 hK53 hI; rw [hI53] at hI; obtain ⟨k, rfl, rfl, hk, rfl, hs, hd⟩ := hI
      unfold BX6_passes_53
      generalize hB81 : BX6_passes_81 g Q (T_X6_wears g) (T_X6_bound g) (T_X6_stands g) (fun _ _ _ => False) K53 = B81
      generalize hB106 : BX6_passes_106 g Q (T_X6_wears g) (T_X6_bound g) (T_X6_stands g) (fun _ _ _ => False) K53 = B106
      simp only [T_X6_wears, T_X6_bound, T_X6_stands, i_const, i_lconst, i_iload, i_aload, i_lload, i_istore, i_astore, i_lstore, i_iinc, i_bin, i_div, i_un, i_i2l, i_l2i, i_lbin, i_lcmp, i_if, i_icmp, i_dup, i_dup_x1, i_dup2, i_pop, i_geti, i_getr, i_getd, i_puti, i_putz, i_putd, i_iald, i_bald, i_aald, i_iast, i_bast, i_alen, i_keep, i_ret, i_retz, i_reta, i_retl, i_retv, i_callv, i_callk, i_calls, i_mm, i_copy, i_under, i_undld, i_ldcs, i_sw, q_swc0, q_swc1, q_lg0, q_lg1, q_lent0, q_lent1, lset, lset2, q_lins0, q_lins1, q_ldel0, q_ldel1, q_ldel20, q_ldel21, q_lkeep0, q_lkeep1, q_memb0, q_memb1, cat2, Nat.reduceBEq, decide_true, decide_false, decide_eq_true_eq, cond_true, cond_false, Bool.and_true, Bool.and_false, Bool.true_and, Bool.false_and, f_iadd, f_isub, f_imul, f_ishl, f_ishr, f_iushr, f_iand, f_ior, f_idiv, f_irem, f_ineg, f_i2b, f_i2s, f_ladd, f_lmul, c_eq, c_ne, c_lt, c_ge, c_gt, c_le, cc_eq, cc_ne, cc_lt, cc_ge, cc_gt, cc_le, rfo, aof, csum, Value.category, List.take, List.drop, List.reverse, List.reverseAux, List.map, List.sum_cons, List.sum_nil, List.cons_append, List.nil_append, Option.toList, List.mem_cons, List.not_mem_nil, List.length_cons, List.length_nil, reduceIte, Nat.reduceEqDiff, Nat.reduceAdd, Nat.reduceLeDiff, Nat.reduceLT, a_day, Nat.zero_ne_one, Nat.one_ne_zero, false_and, and_false, true_and, and_true, or_false, false_or, or_true, true_or, not_true_eq_false, not_false_eq_true, Nat.zero_add, Nat.add_zero, Nat.le_refl, Nat.lt_irrefl, Nat.zero_lt_succ, Nat.zero_le, forall_const, List.cons.injEq, Value.int.injEq, Value.ref.injEq, Value.long.injEq, and_assoc, exists_and_left, exists_eq_left']
      try simp only [forall_eq]
      obtain ⟨hq1, hX1⟩ := key M1 (hs.mono YWn_W) _ hd (wfD_brn hwf1 k)
      have h61 := hq1.many
      rw [hd, hnb] at h61
      rw [h61, nI_leI (by omega) (by omega)]
      refine ⟨m_76 hg, fun z => ?_, fun z => ?_⟩
      · have hkk : k = dn D := by omega
        subst hkk
        subst hB106
        unfold BX6_passes_106
        simp only [T_X6_wears, T_X6_bound, T_X6_stands, i_const, i_lconst, i_iload, i_aload, i_lload, i_istore, i_astore, i_lstore, i_iinc, i_bin, i_div, i_un, i_i2l, i_l2i, i_lbin, i_lcmp, i_if, i_icmp, i_dup, i_dup_x1, i_dup2, i_pop, i_geti, i_getr, i_getd, i_puti, i_putz, i_putd, i_iald, i_bald, i_aald, i_iast, i_bast, i_alen, i_keep, i_ret, i_retz, i_reta, i_retl, i_retv, i_callv, i_callk, i_calls, i_mm, i_copy, i_under, i_undld, i_ldcs, i_sw, q_swc0, q_swc1, q_lg0, q_lg1, q_lent0, q_lent1, lset, lset2, q_lins0, q_lins1, q_ldel0, q_ldel1, q_ldel20, q_ldel21, q_lkeep0, q_lkeep1, q_memb0, q_memb1, cat2, Nat.reduceBEq, decide_true, decide_false, decide_eq_true_eq, cond_true, cond_false, Bool.and_true, Bool.and_false, Bool.true_and, Bool.false_and, f_iadd, f_isub, f_imul, f_ishl, f_ishr, f_iushr, f_iand, f_ior, f_idiv, f_irem, f_ineg, f_i2b, f_i2s, f_ladd, f_lmul, c_eq, c_ne, c_lt, c_ge, c_gt, c_le, cc_eq, cc_ne, cc_lt, cc_ge, cc_gt, cc_le, rfo, aof, csum, Value.category, List.take, List.drop, List.reverse, List.reverseAux, List.map, List.sum_cons, List.sum_nil, List.cons_append, List.nil_append, Option.toList, List.mem_cons, List.not_mem_nil, List.length_cons, List.length_nil, reduceIte, Nat.reduceEqDiff, Nat.reduceAdd, Nat.reduceLeDiff, Nat.reduceLT, a_day, Nat.zero_ne_one, Nat.one_ne_zero, false_and, and_false, true_and, and_true, or_false, false_or, or_true, true_or, not_true_eq_false, not_false_eq_true, Nat.zero_add, Nat.add_zero, Nat.le_refl, Nat.lt_irrefl, Nat.zero_lt_succ, Nat.zero_le, forall_const, List.cons.injEq, Value.int.injEq, Value.ref.injEq, Value.long.injEq, and_assoc, exists_and_left, exists_eq_left']
        try simp only [forall_eq]
        have hpd : pasD X D = upF (brn X D1 (dn D)) 7 1 (brn X D1 (dn D) 7 1 + 1) := by unfold pasD; rw [dayD_eq, hD1]
        have hpb : pasB X D = bbn X D1 (dn D) := by unfold pasB; rw [hD1]
        rw [← hpb]
        refine ⟨m_76 hg, m_76 hg, h _ (hs.set _ (by unfold YWn; omega)) ?_⟩
        rw [dm_set0, hd, hpd, ← hd, dm_71]
      · have hlt : k < dn D := by omega
        have hlt1 : k < dn (dm M1) := by rw [hd, hnb]; exact hlt
        have kk : ∀ f, 0 < f → f < 7 → M1 (77 + f) k = brn X D1 k f k := fun f h1 h2 => by rw [← dm_s f h1 h2 hlt1, hd]
        rw [nI_clamp (by omega), kk 6 (by omega) (by omega), kk 5 (by omega) (by omega), nI_1]
        refine ⟨m_76 hg, m_83 hg, vm l_83 (by omega) (by decide), fun y => ?_, fun y => ⟨m_76 hg, m_82 hg, vm l_82 (by omega) (by decide), (m_76 hg).1, (m_76 hg).2.1, k, rfl, hq1, hlt1, fun M2 hs2 => ?_⟩⟩
        · refine hK53 (dn D - (k + 1)) _ _ _ (by omega) ?_
          rw [hI53]
          have hc : ¬ (brn X D1 k 6 k = 0 ∧ sta X (brn X D1 k) k ≤ brn X D1 k 5 k) := fun w => y w.1
          have e1 : brn X D1 (k + 1) = brn X D1 k := by simp only [brn]; rw [brs_eq, if_neg hc]
          have e2 : bbn X D1 (k + 1) = bbn X D1 k := by simp only [bbn]; rw [if_neg hc]
          exact ⟨k + 1, by rw [e2], rfl, by omega, rfl, hs, by rw [hd, e1]⟩
        · have y0 : brn X D1 k 6 k = 0 := Decidable.not_not.mp y
          have hs2W : Sm (YWn (dn D)) M M2 := hs.tr (hs2.mono fun _ _ e => by unfold YWn; omega)
          have hd2 : dm M2 = brn X D1 k := by rw [← hd]; exact dm_89 hs2 hq1.n
          have hlt2 : k < dn (dm M2) := by rw [hd2, hnb]; exact hlt
          subst hB81
          unfold BX6_passes_81
          simp only [T_X6_wears, T_X6_bound, T_X6_stands, i_const, i_lconst, i_iload, i_aload, i_lload, i_istore, i_astore, i_lstore, i_iinc, i_bin, i_div, i_un, i_i2l, i_l2i, i_lbin, i_lcmp, i_if, i_icmp, i_dup, i_dup_x1, i_dup2, i_pop, i_geti, i_getr, i_getd, i_puti, i_putz, i_putd, i_iald, i_bald, i_aald, i_iast, i_bast, i_alen, i_keep, i_ret, i_retz, i_reta, i_retl, i_retv, i_callv, i_callk, i_calls, i_mm, i_copy, i_under, i_undld, i_ldcs, i_sw, q_swc0, q_swc1, q_lg0, q_lg1, q_lent0, q_lent1, lset, lset2, q_lins0, q_lins1, q_ldel0, q_ldel1, q_ldel20, q_ldel21, q_lkeep0, q_lkeep1, q_memb0, q_memb1, cat2, Nat.reduceBEq, decide_true, decide_false, decide_eq_true_eq, cond_true, cond_false, Bool.and_true, Bool.and_false, Bool.true_and, Bool.false_and, f_iadd, f_isub, f_imul, f_ishl, f_ishr, f_iushr, f_iand, f_ior, f_idiv, f_irem, f_ineg, f_i2b, f_i2s, f_ladd, f_lmul, c_eq, c_ne, c_lt, c_ge, c_gt, c_le, cc_eq, cc_ne, cc_lt, cc_ge, cc_gt, cc_le, rfo, aof, csum, Value.category, List.take, List.drop, List.reverse, List.reverseAux, List.map, List.sum_cons, List.sum_nil, List.cons_append, List.nil_append, Option.toList, List.mem_cons, List.not_mem_nil, List.length_cons, List.length_nil, reduceIte, Nat.reduceEqDiff, Nat.reduceAdd, Nat.reduceLeDiff, Nat.reduceLT, a_day, Nat.zero_ne_one, Nat.one_ne_zero, false_and, and_false, true_and, and_true, or_false, false_or, or_true, true_or, not_true_eq_false, not_false_eq_true, Nat.zero_add, Nat.add_zero, Nat.le_refl, Nat.lt_irrefl, Nat.zero_lt_succ, Nat.zero_le, forall_const, List.cons.injEq, Value.int.injEq, Value.ref.injEq, Value.long.injEq, and_assoc, exists_and_left, exists_eq_left']
          try simp only [forall_eq]
          rw [hd, hX1, nI_1]
          refine ⟨fun w => ?_, fun w => ?_⟩
          · have hc : brn X D1 k 6 k = 0 ∧ sta X (brn X D1 k) k ≤ brn X D1 k 5 k := ⟨y0, w⟩
            have e1 : brn X D1 (k + 1) = upF (brn X D1 k) 6 k 1 := by simp only [brn]; rw [brs_eq, if_pos hc]
            have e2 : bbn X D1 (k + 1) = bbn X D1 k ||| (1 <<< (nI k &&& 31)) := by simp only [bbn]; rw [if_pos hc]
            rw [nI_clamp (by omega)]
            refine ⟨m_76 hg, m_83 hg, vm l_83 (by omega) (by decide), ?_⟩
            refine hK53 (dn D - (k + 1)) _ _ _ (by omega) ?_
            rw [hI53]
            refine ⟨k + 1, by rw [e2], rfl, by omega, rfl, hs2W.set _ (by unfold YWn; omega), ?_⟩
            rw [e1, ← hd2]
            exact dm_set (f := 6) (by decide) (by decide) hlt2
          · refine hK53 (dn D - (k + 1)) _ _ _ (by omega) ?_
            rw [hI53]
            have hc : ¬ (brn X D1 k 6 k = 0 ∧ sta X (brn X D1 k) k ≤ brn X D1 k 5 k) := fun u => w u.2
            have e1 : brn X D1 (k + 1) = brn X D1 k := by simp only [brn]; rw [brs_eq, if_neg hc]
            have e2 : bbn X D1 (k + 1) = bbn X D1 k := by simp only [bbn]; rw [if_neg hc]
            exact ⟨k + 1, by rw [e2], rfl, by omega, rfl, hs2W, by rw [hd2, e1]⟩
      
    have L2 : Sj p l e 5 s m args below meth c 3 g (MQ below (cQc g Q) args s 0 0 (gA g)) 2 E2 := by
      rw [hE2]
      refine s_ex (s_loop I2 (fun K2 k2 => WX6_passes_2 C (t_X6_wears hg) (by decide) (t_X6_bound hg) (by decide) (t_X6_stands hg) (by decide) k2 L53) ?_)
      intro n lv st M1 K2 hK2 hI; rw [hI2] at hI; obtain ⟨k, rfl, rfl, hk, rfl, hs, hd⟩ := hI
      unfold BX6_passes_2
      generalize hB35 : BX6_passes_35 g Q (T_X6_wears g) (T_X6_bound g) (T_X6_stands g) K2 E53 = B35
      generalize hB49 : BX6_passes_49 g Q (T_X6_wears g) (T_X6_bound g) (T_X6_stands g) K2 E53 = B49
      simp only [T_X6_wears, T_X6_bound, T_X6_stands, i_const, i_lconst, i_iload, i_aload, i_lload, i_istore, i_astore, i_lstore, i_iinc, i_bin, i_div, i_un, i_i2l, i_l2i, i_lbin, i_lcmp, i_if, i_icmp, i_dup, i_dup_x1, i_dup2, i_pop, i_geti, i_getr, i_getd, i_puti, i_putz, i_putd, i_iald, i_bald, i_aald, i_iast, i_bast, i_alen, i_keep, i_ret, i_retz, i_reta, i_retl, i_retv, i_callv, i_callk, i_calls, i_mm, i_copy, i_under, i_undld, i_ldcs, i_sw, q_swc0, q_swc1, q_lg0, q_lg1, q_lent0, q_lent1, lset, lset2, q_lins0, q_lins1, q_ldel0, q_ldel1, q_ldel20, q_ldel21, q_lkeep0, q_lkeep1, q_memb0, q_memb1, cat2, Nat.reduceBEq, decide_true, decide_false, decide_eq_true_eq, cond_true, cond_false, Bool.and_true, Bool.and_false, Bool.true_and, Bool.false_and, f_iadd, f_isub, f_imul, f_ishl, f_ishr, f_iushr, f_iand, f_ior, f_idiv, f_irem, f_ineg, f_i2b, f_i2s, f_ladd, f_lmul, c_eq, c_ne, c_lt, c_ge, c_gt, c_le, cc_eq, cc_ne, cc_lt, cc_ge, cc_gt, cc_le, rfo, aof, csum, Value.category, List.take, List.drop, List.reverse, List.reverseAux, List.map, List.sum_cons, List.sum_nil, List.cons_append, List.nil_append, Option.toList, List.mem_cons, List.not_mem_nil, List.length_cons, List.length_nil, reduceIte, Nat.reduceEqDiff, Nat.reduceAdd, Nat.reduceLeDiff, Nat.reduceLT, a_day, Nat.zero_ne_one, Nat.one_ne_zero, false_and, and_false, true_and, and_true, or_false, false_or, or_true, true_or, not_true_eq_false, not_false_eq_true, Nat.zero_add, Nat.add_zero, Nat.le_refl, Nat.lt_irrefl, Nat.zero_lt_succ, Nat.zero_le, forall_const, List.cons.injEq, Value.int.injEq, Value.ref.injEq, Value.long.injEq, and_assoc, exists_and_left, exists_eq_left']
      try simp only [forall_eq]
      obtain ⟨hq1, hX1⟩ := key M1 (hs.mono YWn_W) _ hd (hw1 k hk)
      have h61 := hq1.many
      rw [hd, hn1] at h61
      rw [h61, nI_leI (by omega) (by omega)]
      refine ⟨m_76 hg, fun z => ?_, fun z => ?_⟩
      · have hkk : k = dn D := by omega
        subst hkk
        subst hB49
        unfold BX6_passes_49
        simp only [T_X6_wears, T_X6_bound, T_X6_stands, i_const, i_lconst, i_iload, i_aload, i_lload, i_istore, i_astore, i_lstore, i_iinc, i_bin, i_div, i_un, i_i2l, i_l2i, i_lbin, i_lcmp, i_if, i_icmp, i_dup, i_dup_x1, i_dup2, i_pop, i_geti, i_getr, i_getd, i_puti, i_putz, i_putd, i_iald, i_bald, i_aald, i_iast, i_bast, i_alen, i_keep, i_ret, i_retz, i_reta, i_retl, i_retv, i_callv, i_callk, i_calls, i_mm, i_copy, i_under, i_undld, i_ldcs, i_sw, q_swc0, q_swc1, q_lg0, q_lg1, q_lent0, q_lent1, lset, lset2, q_lins0, q_lins1, q_ldel0, q_ldel1, q_ldel20, q_ldel21, q_lkeep0, q_lkeep1, q_memb0, q_memb1, cat2, Nat.reduceBEq, decide_true, decide_false, decide_eq_true_eq, cond_true, cond_false, Bool.and_true, Bool.and_false, Bool.true_and, Bool.false_and, f_iadd, f_isub, f_imul, f_ishl, f_ishr, f_iushr, f_iand, f_ior, f_idiv, f_irem, f_ineg, f_i2b, f_i2s, f_ladd, f_lmul, c_eq, c_ne, c_lt, c_ge, c_gt, c_le, cc_eq, cc_ne, cc_lt, cc_ge, cc_gt, cc_le, rfo, aof, csum, Value.category, List.take, List.drop, List.reverse, List.reverseAux, List.map, List.sum_cons, List.sum_nil, List.cons_append, List.nil_append, Option.toList, List.mem_cons, List.not_mem_nil, List.length_cons, List.length_nil, reduceIte, Nat.reduceEqDiff, Nat.reduceAdd, Nat.reduceLeDiff, Nat.reduceLT, a_day, Nat.zero_ne_one, Nat.one_ne_zero, false_and, and_false, true_and, and_true, or_false, false_or, or_true, true_or, not_true_eq_false, not_false_eq_true, Nat.zero_add, Nat.add_zero, Nat.le_refl, Nat.lt_irrefl, Nat.zero_lt_succ, Nat.zero_le, forall_const, List.cons.injEq, Value.int.injEq, Value.ref.injEq, Value.long.injEq, and_assoc, exists_and_left, exists_eq_left']
        try simp only [forall_eq]
        refine iE53 (dn D - 0) _ _ _ ?_
        rw [hI53]
        exact ⟨0, rfl, rfl, by omega, rfl, hs, by rw [hd]; exact hD1⟩
      · have hlt : k < dn D := by omega
        have hlt1 : k < dn (dm M1) := by rw [hd, hn1]; exact hlt
        have kk : ∀ f, 0 < f → f < 7 → M1 (77 + f) k = wr1 X D k f k := fun f h1 h2 => by rw [← dm_s f h1 h2 hlt1, hd]
        rw [nI_clamp (by omega), kk 6 (by omega) (by omega), kk 5 (by omega) (by omega), wr1_ne (by decide), nI_1]
        refine ⟨m_76 hg, m_83 hg, vm l_83 (by omega) (by decide), fun y => ?_, fun y => ⟨m_76 hg, m_76 hg, m_82 hg, vm l_82 (by omega) (by decide), (m_76 hg).1, (m_76 hg).2.1, k, rfl, hq1, hlt1, fun M2 hs2 => ?_⟩⟩
        · refine hK2 (dn D - (k + 1)) _ _ _ (by omega) ?_
          rw [hI2]
          exact ⟨k + 1, rfl, rfl, by omega, rfl, hs, by rw [hd, wr1_s, if_neg y]⟩
        · have y0 : D 6 k = 0 := Decidable.not_not.mp y
          have hs2W : Sm (YWn (dn D)) M M2 := hs.tr (hs2.mono fun _ _ e => by unfold YWn; omega)
          have hd2 : dm M2 = wr1 X D k := by rw [← hd]; exact dm_89 hs2 hq1.n
          have hlt2 : k < dn (dm M2) := by rw [hd2, hn1]; exact hlt
          subst hB35
          unfold BX6_passes_35
          generalize hB42 : BX6_passes_42 g Q (T_X6_wears g) (T_X6_bound g) (T_X6_stands g) K2 E53 = B42
          simp only [T_X6_wears, T_X6_bound, T_X6_stands, i_const, i_lconst, i_iload, i_aload, i_lload, i_istore, i_astore, i_lstore, i_iinc, i_bin, i_div, i_un, i_i2l, i_l2i, i_lbin, i_lcmp, i_if, i_icmp, i_dup, i_dup_x1, i_dup2, i_pop, i_geti, i_getr, i_getd, i_puti, i_putz, i_putd, i_iald, i_bald, i_aald, i_iast, i_bast, i_alen, i_keep, i_ret, i_retz, i_reta, i_retl, i_retv, i_callv, i_callk, i_calls, i_mm, i_copy, i_under, i_undld, i_ldcs, i_sw, q_swc0, q_swc1, q_lg0, q_lg1, q_lent0, q_lent1, lset, lset2, q_lins0, q_lins1, q_ldel0, q_ldel1, q_ldel20, q_ldel21, q_lkeep0, q_lkeep1, q_memb0, q_memb1, cat2, Nat.reduceBEq, decide_true, decide_false, decide_eq_true_eq, cond_true, cond_false, Bool.and_true, Bool.and_false, Bool.true_and, Bool.false_and, f_iadd, f_isub, f_imul, f_ishl, f_ishr, f_iushr, f_iand, f_ior, f_idiv, f_irem, f_ineg, f_i2b, f_i2s, f_ladd, f_lmul, c_eq, c_ne, c_lt, c_ge, c_gt, c_le, cc_eq, cc_ne, cc_lt, cc_ge, cc_gt, cc_le, rfo, aof, csum, Value.category, List.take, List.drop, List.reverse, List.reverseAux, List.map, List.sum_cons, List.sum_nil, List.cons_append, List.nil_append, Option.toList, List.mem_cons, List.not_mem_nil, List.length_cons, List.length_nil, reduceIte, Nat.reduceEqDiff, Nat.reduceAdd, Nat.reduceLeDiff, Nat.reduceLT, a_day, Nat.zero_ne_one, Nat.one_ne_zero, false_and, and_false, true_and, and_true, or_false, false_or, or_true, true_or, not_true_eq_false, not_false_eq_true, Nat.zero_add, Nat.add_zero, Nat.le_refl, Nat.lt_irrefl, Nat.zero_lt_succ, Nat.zero_le, forall_const, List.cons.injEq, Value.int.injEq, Value.ref.injEq, Value.long.injEq, and_assoc, exists_and_left, exists_eq_left']
          try simp only [forall_eq]
          subst hB42
          unfold BX6_passes_42
          simp only [T_X6_wears, T_X6_bound, T_X6_stands, i_const, i_lconst, i_iload, i_aload, i_lload, i_istore, i_astore, i_lstore, i_iinc, i_bin, i_div, i_un, i_i2l, i_l2i, i_lbin, i_lcmp, i_if, i_icmp, i_dup, i_dup_x1, i_dup2, i_pop, i_geti, i_getr, i_getd, i_puti, i_putz, i_putd, i_iald, i_bald, i_aald, i_iast, i_bast, i_alen, i_keep, i_ret, i_retz, i_reta, i_retl, i_retv, i_callv, i_callk, i_calls, i_mm, i_copy, i_under, i_undld, i_ldcs, i_sw, q_swc0, q_swc1, q_lg0, q_lg1, q_lent0, q_lent1, lset, lset2, q_lins0, q_lins1, q_ldel0, q_ldel1, q_ldel20, q_ldel21, q_lkeep0, q_lkeep1, q_memb0, q_memb1, cat2, Nat.reduceBEq, decide_true, decide_false, decide_eq_true_eq, cond_true, cond_false, Bool.and_true, Bool.and_false, Bool.true_and, Bool.false_and, f_iadd, f_isub, f_imul, f_ishl, f_ishr, f_iushr, f_iand, f_ior, f_idiv, f_irem, f_ineg, f_i2b, f_i2s, f_ladd, f_lmul, c_eq, c_ne, c_lt, c_ge, c_gt, c_le, cc_eq, cc_ne, cc_lt, cc_ge, cc_gt, cc_le, rfo, aof, csum, Value.category, List.take, List.drop, List.reverse, List.reverseAux, List.map, List.sum_cons, List.sum_nil, List.cons_append, List.nil_append, Option.toList, List.mem_cons, List.not_mem_nil, List.length_cons, List.length_nil, reduceIte, Nat.reduceEqDiff, Nat.reduceAdd, Nat.reduceLeDiff, Nat.reduceLT, a_day, Nat.zero_ne_one, Nat.one_ne_zero, false_and, and_false, true_and, and_true, or_false, false_or, or_true, true_or, not_true_eq_false, not_false_eq_true, Nat.zero_add, Nat.add_zero, Nat.le_refl, Nat.lt_irrefl, Nat.zero_lt_succ, Nat.zero_le, forall_const, List.cons.injEq, Value.int.injEq, Value.ref.injEq, Value.long.injEq, and_assoc, exists_and_left, exists_eq_left']
          try simp only [forall_eq]
          rw [hd, hX1, wea_wr1 (Nat.le_refl _), wr1_ge (Nat.le_refl _), cap_bnd (hwf.2.2.1 k hlt).2.2.2.2.1 (wea_N X D k), nI_clamp (by omega), nI_1]
          refine ⟨m_82 hg, vm l_82 (by omega) (by decide), ?_⟩
          refine hK2 (dn D - (k + 1)) _ _ _ (by omega) ?_
          rw [hI2]
          refine ⟨k + 1, rfl, rfl, by omega, rfl, hs2W.set _ (by unfold YWn; omega), ?_⟩
          rw [wr1_s, if_pos y0, ← hd2]
          exact dm_set (f := 5) (by decide) (by decide) hlt2
    refine s_of (fun lv st M0 hs => ?_) (WX6_passes_0 C (t_X6_wears hg) (by decide) (t_X6_bound hg) (by decide) (t_X6_stands hg) (by decide) L2 L53)
    obtain ⟨rfl, rfl, rfl⟩ := hs
    unfold BX6_passes_0
    simp only [T_X6_wears, T_X6_bound, T_X6_stands, i_const, i_lconst, i_iload, i_aload, i_lload, i_istore, i_astore, i_lstore, i_iinc, i_bin, i_div, i_un, i_i2l, i_l2i, i_lbin, i_lcmp, i_if, i_icmp, i_dup, i_dup_x1, i_dup2, i_pop, i_geti, i_getr, i_getd, i_puti, i_putz, i_putd, i_iald, i_bald, i_aald, i_iast, i_bast, i_alen, i_keep, i_ret, i_retz, i_reta, i_retl, i_retv, i_callv, i_callk, i_calls, i_mm, i_copy, i_under, i_undld, i_ldcs, i_sw, q_swc0, q_swc1, q_lg0, q_lg1, q_lent0, q_lent1, lset, lset2, q_lins0, q_lins1, q_ldel0, q_ldel1, q_ldel20, q_ldel21, q_lkeep0, q_lkeep1, q_memb0, q_memb1, cat2, Nat.reduceBEq, decide_true, decide_false, decide_eq_true_eq, cond_true, cond_false, Bool.and_true, Bool.and_false, Bool.true_and, Bool.false_and, f_iadd, f_isub, f_imul, f_ishl, f_ishr, f_iushr, f_iand, f_ior, f_idiv, f_irem, f_ineg, f_i2b, f_i2s, f_ladd, f_lmul, c_eq, c_ne, c_lt, c_ge, c_gt, c_le, cc_eq, cc_ne, cc_lt, cc_ge, cc_gt, cc_le, rfo, aof, csum, Value.category, List.take, List.drop, List.reverse, List.reverseAux, List.map, List.sum_cons, List.sum_nil, List.cons_append, List.nil_append, Option.toList, List.mem_cons, List.not_mem_nil, List.length_cons, List.length_nil, reduceIte, Nat.reduceEqDiff, Nat.reduceAdd, Nat.reduceLeDiff, Nat.reduceLT, a_day, Nat.zero_ne_one, Nat.one_ne_zero, false_and, and_false, true_and, and_true, or_false, false_or, or_true, true_or, not_true_eq_false, not_false_eq_true, Nat.zero_add, Nat.add_zero, Nat.le_refl, Nat.lt_irrefl, Nat.zero_lt_succ, Nat.zero_le, forall_const, List.cons.injEq, Value.int.injEq, Value.ref.injEq, Value.long.injEq, and_assoc, exists_and_left, exists_eq_left']
    try simp only [forall_eq]
    refine iE2 (dn D - 0) _ _ _ ?_
    rw [hI2]
    exact ⟨0, rfl, rfl, by omega, rfl, Sm.rf, by rw [hDe, wr1_0]⟩
