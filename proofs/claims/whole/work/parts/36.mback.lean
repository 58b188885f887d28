/-! ===== back, count, taken: the model ===== -/
def YB (a b : Nat) : Prop := a = 77 ∨ (79 ≤ a ∧ a ≤ 83) ∨ (a = 76 ∧ (b = 0 ∨ b = 2 ∨ b = 9))
def T_X6_back (g : WG) (as : List Value) (M : MM) (Q : Option Value → MM → Prop) : Prop := as = [.ref 76] ∧ zM M ∧ (M 76 38 = 0 → Q (some (.int (-3))) M) ∧ (¬ M 76 38 = 0 → (M 76 39).toNatClampNeg ≤ 6 ∧ (∀ s, s < (M 76 39).toNatClampNeg → M 98 (24 + s) = 0 ∨ M 98 (24 + s) = 1) ∧ ∀ M', Sm YB M M' → M' 76 9 = M 76 41 → dm M' = idm M → zM M' → Q (some (.int (M 76 39))) M')
set_option maxRecDepth 100000 in
set_option maxHeartbeats 2000000 in
theorem t_X6_back {l : Launch} {g : WG} (hg : Full g) : Ct l g yX6_back cX6_back 2 ((Option.some FieldType.int)) 1 (T_X6_back g) := by
  refine Ct.of (by decide) (fun as M Q h => ?_) (fun p e s m args below meth c as M Q h C => ?_)
  · obtain ⟨rfl, hz, h0, h⟩ := h; exact ⟨by simp, by simp [Value.category]⟩
  · obtain ⟨rfl, hz, h0, h⟩ := h
    obtain ⟨I36, hI36⟩ : ∃ I : Nat → PP, I = (fun n lv st M' => ∃ k, lv = [(0, .ref 76), (1, .int (nI k))] ∧ st = [] ∧ k ≤ 16 ∧ n = 16 - k ∧ ¬ M 76 38 = 0 ∧ Sm YB M M' ∧ M' 76 2 = M 76 39 ∧ M' 76 0 = M 76 40 ∧ M' 76 9 = M 76 41 ∧ (∀ j, M' 83 j = M 83 j) ∧ (∀ j, j < k → M' 77 j = M 97 j)) := ⟨_, rfl⟩
    obtain ⟨E36, hE36⟩ : ∃ E : PP, E = (fun lv st M => ∃ n, I36 n lv st M) := ⟨_, rfl⟩
    have iE36 : ∀ n lv st M, I36 n lv st M → E36 lv st M := fun n lv st M h => by rw [hE36]; exact ⟨n, h⟩
    obtain ⟨I62, hI62⟩ : ∃ I : Nat → PP, I = (fun n lv st M' => ∃ k, lv = [(0, .ref 76), (1, .int (nI k))] ∧ st = [] ∧ k ≤ 6 ∧ n = 6 - k ∧ ¬ M 76 38 = 0 ∧ Sm YB M M' ∧ M' 76 2 = M 76 39 ∧ M' 76 0 = M 76 40 ∧ M' 76 9 = M 76 41 ∧ (∀ j, j < 16 → M' 77 j = M 97 j) ∧ (∀ s, k ≤ s → M' 83 s = M 83 s) ∧ (∀ f s, 2 ≤ f → f < 7 → s < k → M' (77 + f) s = if f = 6 then b2i (M 98 (24 + s) = 1) else M 98 (6 * (f - 2) + s))) := ⟨_, rfl⟩
    obtain ⟨E62, hE62⟩ : ∃ E : PP, E = (fun lv st M => ∃ n, I62 n lv st M) := ⟨_, rfl⟩
    have iE62 : ∀ n lv st M, I62 n lv st M → E62 lv st M := fun n lv st M h => by rw [hE62]; exact ⟨n, h⟩
    have L62 : Sj p l e 1 s m args below meth c 2 g (MQ below (cQc g Q) args s 0 0 (gA g)) 62 E62 := by
      rw [hE62]
      refine s_ex (s_loop I62 (fun K62 k62 => WX6_back_62 C s_F k62) ?_)
      intro n lv st M1 K62 hK62 hI; rw [hI62] at hI; obtain ⟨k, rfl, rfl, hk, rfl, y, hs, h2, h00, h9, hj, h83, hv⟩ := hI
      unfold BX6_back_62
      simp only [i_const, i_lconst, i_iload, i_aload, i_lload, i_istore, i_astore, i_lstore, i_iinc, i_bin, i_div, i_un, i_i2l, i_l2i, i_lbin, i_lcmp, i_if, i_icmp, i_dup, i_dup_x1, i_dup2, i_pop, i_geti, i_getr, i_getd, i_puti, i_putz, i_putd, i_iald, i_bald, i_aald, i_iast, i_bast, i_alen, i_keep, i_ret, i_retz, i_reta, i_retl, i_retv, i_callv, i_callk, i_calls, i_mm, i_copy, i_under, i_undld, i_ldcs, i_sw, q_swc0, q_swc1, q_lg0, q_lg1, q_lent0, q_lent1, lset, lset2, q_lins0, q_lins1, q_ldel0, q_ldel1, q_ldel20, q_ldel21, q_lkeep0, q_lkeep1, q_memb0, q_memb1, cat2, Nat.reduceBEq, decide_true, decide_false, decide_eq_true_eq, cond_true, cond_false, Bool.and_true, Bool.and_false, Bool.true_and, Bool.false_and, f_iadd, f_isub, f_imul, f_ishl, f_ishr, f_iushr, f_iand, f_ior, f_idiv, f_irem, f_ineg, f_i2b, f_i2s, f_ladd, f_lmul, c_eq, c_ne, c_lt, c_ge, c_gt, c_le, cc_eq, cc_ne, cc_lt, cc_ge, cc_gt, cc_le, rfo, aof, csum, Value.category, List.take, List.drop, List.reverse, List.reverseAux, List.map, List.sum_cons, List.sum_nil, List.cons_append, List.nil_append, Option.toList, List.mem_cons, List.not_mem_nil, List.length_cons, List.length_nil, reduceIte, Nat.reduceEqDiff, Nat.reduceAdd, Nat.reduceLeDiff, Nat.reduceLT, a_day, Nat.zero_ne_one, Nat.one_ne_zero, false_and, and_false, true_and, and_true, or_false, false_or, or_true, true_or, not_true_eq_false, not_false_eq_true, Nat.zero_add, Nat.add_zero, Nat.le_refl, Nat.lt_irrefl, Nat.zero_lt_succ, Nat.zero_le, forall_const, List.cons.injEq, Value.int.injEq, Value.ref.injEq, Value.long.injEq, and_assoc, exists_and_left, exists_eq_left']
      try simp only [forall_eq]
      rw [show (6 : Int32) = nI 6 from rfl, nI_leI (by decide) (by omega)]
      refine ⟨fun z => ?_, fun z => ?_⟩
      · have : k = 6 := by omega
        subst this
        rw [h2]
        obtain ⟨k6, kb, h⟩ := h y
        refine ⟨m_76 hg, h M1 hs h9 ?_ ?_⟩
        · funext f i
          simp only [idm, dm, h2, h00, h9]
          by_cases h0 : f = 0
          · subst h0
            by_cases hi : i < 16
            · simp [hi, hj i hi]
            · simp [hi]
          · by_cases h7 : f < 7
            · simp only [h0, h7, if_true, if_false]
              by_cases hi : i < (M 76 39).toNatClampNeg
              · simp only [hi, if_true]
                by_cases h1 : f = 1
                · subst h1; rw [if_pos rfl]; exact hs 78 i (by unfold YB; omega)
                · rw [if_neg h1, hv f i (by omega) h7 (by omega)]
                  by_cases h6 : f = 6
                  · subst h6
                    rw [if_pos rfl]
                    rcases kb i hi with q | q
                    · show _ = M 98 (24 + i); rw [q]; rfl
                    · show _ = M 98 (24 + i); rw [q]; rfl
                  · rw [if_neg h6]
              · simp [hi]
            · simp [h0, h7]
        · intro s hs'
          by_cases e : s < 6
          · rw [hv 6 s (by decide) (by decide) e, if_pos rfl]; exact b2i_z _
          · rw [h83 s (by omega)]; exact hz s hs'
      · have hlt : k < 6 := by omega
        rw [show (12 : Int32) = nI 12 from rfl, show (18 : Int32) = nI 18 from rfl, show (24 : Int32) = nI 24 from rfl]
        have go : ∀ M2 : MM, Sm (fun a b => 79 ≤ a ∧ a ≤ 83 ∧ b = k) M1 M2 → (∀ f, 2 ≤ f → f < 7 → M2 (77 + f) k = if f = 6 then b2i (M 98 (24 + k) = 1) else M 98 (6 * (f - 2) + k)) → K62 [(0, .ref 76), (1, .int (nI (k + 1)))] [] M2 := by
          intro M2 hs2 hv2
          refine hK62 (6 - (k + 1)) _ _ _ (by omega) ?_
          rw [hI62]
          refine ⟨k + 1, rfl, rfl, by omega, rfl, y, hs.tr (hs2.mono fun a b q => by unfold YB; omega), by rw [hs2 _ _ (by omega)]; exact h2, by rw [hs2 _ _ (by omega)]; exact h00, by rw [hs2 _ _ (by omega)]; exact h9, fun j hj' => by rw [hs2 _ _ (by omega)]; exact hj j hj', fun s hs' => by rw [hs2 _ _ (by omega)]; exact h83 s (by omega), fun f s h2 h7 hs' => ?_⟩
          by_cases e : s = k
          · subst e; exact hv2 f h2 h7
          · rw [hs2 _ _ (by omega)]; exact hv f s h2 h7 (by omega)
        simp only [nI_add, nI_1, nI_clamp (show k < 2 ^ 31 by omega), nI_clamp (show 6 + k < 2 ^ 31 by omega), nI_clamp (show 12 + k < 2 ^ 31 by omega), nI_clamp (show 18 + k < 2 ^ 31 by omega), nI_clamp (show 24 + k < 2 ^ 31 by omega)]
        have n98 : ∀ {a j b : Nat} {x : Int32} {M : MM}, ¬ 98 = a → mset M a j x 98 b = M 98 b := fun q => ms_q q
        have a98 : ∀ j, M1 98 j = M 98 j := fun j => hs _ _ (by unfold YB; omega)
        simp only [n98 (show ¬ 98 = 79 by decide), n98 (show ¬ 98 = 80 by decide), n98 (show ¬ 98 = 81 by decide), n98 (show ¬ 98 = 82 by decide), a98]
        have gen : ∀ x, x = b2i (M 98 (24 + k) = 1) → K62 [(0, .ref 76), (1, .int (nI (k + 1)))] [] (mset (mset (mset (mset (mset M1 79 k (M 98 k)) 80 k (M 98 (6 + k))) 81 k (M 98 (12 + k))) 82 k (M 98 (18 + k))) 83 k x) := by
          intro x hx
          subst hx
          refine go _ ((((((Sm.rf (X := fun a b => 79 ≤ a ∧ a ≤ 83 ∧ b = k)).set _ (by omega)).set _ (by omega)).set _ (by omega)).set _ (by omega)).set _ (by omega)) (fun f h2 h7 => ?_)
          have : f = 2 ∨ f = 3 ∨ f = 4 ∨ f = 5 ∨ f = 6 := by omega
          rcases this with rfl | rfl | rfl | rfl | rfl <;> simp [mset_app]
        have v98 : ∀ j, j < 30 → vp_in (nI j) (ln 98) := fun j hj' => vm l_98 hj' (by decide)
        refine ⟨m_76 hg, m_76 hg, m_98 hg, v98 _ (by omega), m_79 hg, vm l_79 (by omega) (by decide), m_76 hg, m_76 hg, m_98 hg, v98 _ (by omega), m_80 hg, vm l_80 (by omega) (by decide), m_76 hg, m_76 hg, m_98 hg, v98 _ (by omega), m_81 hg, vm l_81 (by omega) (by decide), m_76 hg, m_76 hg, m_98 hg, v98 _ (by omega), m_82 hg, vm l_82 (by omega) (by decide), m_76 hg, m_76 hg, m_98 hg, v98 _ (by omega), fun y => ⟨m_83 hg, vm l_83 (by omega) (by decide), gen 0 ?_⟩, fun y => ⟨m_83 hg, vm l_83 (by omega) (by decide), gen 1 ?_⟩⟩
        · rw [b2i_f y]
        · rw [b2i_t (Decidable.not_not.mp y)]
    have L36 : Sj p l e 1 s m args below meth c 2 g (MQ below (cQc g Q) args s 0 0 (gA g)) 36 E36 := by
      rw [hE36]
      refine s_ex (s_loop I36 (fun K36 k36 => WX6_back_36 C k36 L62) ?_)
      intro n lv st M1 K36 hK36 hI; rw [hI36] at hI; obtain ⟨k, rfl, rfl, hk, rfl, y, hs, h2, h00, h9, h83, hj⟩ := hI
      unfold BX6_back_36
      simp only [i_const, i_lconst, i_iload, i_aload, i_lload, i_istore, i_astore, i_lstore, i_iinc, i_bin, i_div, i_un, i_i2l, i_l2i, i_lbin, i_lcmp, i_if, i_icmp, i_dup, i_dup_x1, i_dup2, i_pop, i_geti, i_getr, i_getd, i_puti, i_putz, i_putd, i_iald, i_bald, i_aald, i_iast, i_bast, i_alen, i_keep, i_ret, i_retz, i_reta, i_retl, i_retv, i_callv, i_callk, i_calls, i_mm, i_copy, i_under, i_undld, i_ldcs, i_sw, q_swc0, q_swc1, q_lg0, q_lg1, q_lent0, q_lent1, lset, lset2, q_lins0, q_lins1, q_ldel0, q_ldel1, q_ldel20, q_ldel21, q_lkeep0, q_lkeep1, q_memb0, q_memb1, cat2, Nat.reduceBEq, decide_true, decide_false, decide_eq_true_eq, cond_true, cond_false, Bool.and_true, Bool.and_false, Bool.true_and, Bool.false_and, f_iadd, f_isub, f_imul, f_ishl, f_ishr, f_iushr, f_iand, f_ior, f_idiv, f_irem, f_ineg, f_i2b, f_i2s, f_ladd, f_lmul, c_eq, c_ne, c_lt, c_ge, c_gt, c_le, cc_eq, cc_ne, cc_lt, cc_ge, cc_gt, cc_le, rfo, aof, csum, Value.category, List.take, List.drop, List.reverse, List.reverseAux, List.map, List.sum_cons, List.sum_nil, List.cons_append, List.nil_append, Option.toList, List.mem_cons, List.not_mem_nil, List.length_cons, List.length_nil, reduceIte, Nat.reduceEqDiff, Nat.reduceAdd, Nat.reduceLeDiff, Nat.reduceLT, a_day, Nat.zero_ne_one, Nat.one_ne_zero, false_and, and_false, true_and, and_true, or_false, false_or, or_true, true_or, not_true_eq_false, not_false_eq_true, Nat.zero_add, Nat.add_zero, Nat.le_refl, Nat.lt_irrefl, Nat.zero_lt_succ, Nat.zero_le, forall_const, List.cons.injEq, Value.int.injEq, Value.ref.injEq, Value.long.injEq, and_assoc, exists_and_left, exists_eq_left']
      try simp only [forall_eq]
      rw [show (16 : Int32) = nI 16 from rfl, nI_leI (by decide) (by omega)]
      refine ⟨fun z => ?_, fun z => ?_⟩
      · refine iE62 (6 - 0) _ _ _ ?_
        rw [hI62]
        exact ⟨0, rfl, rfl, by omega, rfl, y, hs, h2, h00, h9, fun j hj' => hj j (by omega), fun s _ => h83 s, fun f s _ _ hs => absurd hs (by omega)⟩
      · have hlt : k < 16 := by omega
        rw [nI_clamp (by omega), nI_1, hs 97 k (by unfold YB; omega)]
        refine ⟨m_76 hg, m_76 hg, m_97 hg, vm l_97 hlt (by decide), m_77 hg, vm l_77 hlt (by decide), hK36 (16 - (k + 1)) _ _ _ (by omega) ?_⟩
        rw [hI36]
        refine ⟨k + 1, rfl, rfl, by omega, rfl, y, hs.set _ (by unfold YB; omega), by rw [ms_q (by decide)]; exact h2, by rw [ms_q (by decide)]; exact h00, by rw [ms_q (by decide)]; exact h9, fun j => by rw [ms_q (by decide)]; exact h83 j, fun j hj' => ?_⟩
        by_cases e : j = k
        · subst e; rw [ms_s]
        · rw [ms_j e]; exact hj j (by omega)
    refine s_of (fun lv st M0 hs => ?_) (WX6_back_0 C L36 L62)
    obtain ⟨rfl, rfl, rfl⟩ := hs
    unfold BX6_back_0
    simp only [i_const, i_lconst, i_iload, i_aload, i_lload, i_istore, i_astore, i_lstore, i_iinc, i_bin, i_div, i_un, i_i2l, i_l2i, i_lbin, i_lcmp, i_if, i_icmp, i_dup, i_dup_x1, i_dup2, i_pop, i_geti, i_getr, i_getd, i_puti, i_putz, i_putd, i_iald, i_bald, i_aald, i_iast, i_bast, i_alen, i_keep, i_ret, i_retz, i_reta, i_retl, i_retv, i_callv, i_callk, i_calls, i_mm, i_copy, i_under, i_undld, i_ldcs, i_sw, q_swc0, q_swc1, q_lg0, q_lg1, q_lent0, q_lent1, lset, lset2, q_lins0, q_lins1, q_ldel0, q_ldel1, q_ldel20, q_ldel21, q_lkeep0, q_lkeep1, q_memb0, q_memb1, cat2, Nat.reduceBEq, decide_true, decide_false, decide_eq_true_eq, cond_true, cond_false, Bool.and_true, Bool.and_false, Bool.true_and, Bool.false_and, f_iadd, f_isub, f_imul, f_ishl, f_ishr, f_iushr, f_iand, f_ior, f_idiv, f_irem, f_ineg, f_i2b, f_i2s, f_ladd, f_lmul, c_eq, c_ne, c_lt, c_ge, c_gt, c_le, cc_eq, cc_ne, cc_lt, cc_ge, cc_gt, cc_le, rfo, aof, csum, Value.category, List.take, List.drop, List.reverse, List.reverseAux, List.map, List.sum_cons, List.sum_nil, List.cons_append, List.nil_append, Option.toList, List.mem_cons, List.not_mem_nil, List.length_cons, List.length_nil, reduceIte, Nat.reduceEqDiff, Nat.reduceAdd, Nat.reduceLeDiff, Nat.reduceLT, a_day, Nat.zero_ne_one, Nat.one_ne_zero, false_and, and_false, true_and, and_true, or_false, false_or, or_true, true_or, not_true_eq_false, not_false_eq_true, Nat.zero_add, Nat.add_zero, Nat.le_refl, Nat.lt_irrefl, Nat.zero_lt_succ, Nat.zero_le, forall_const, List.cons.injEq, Value.int.injEq, Value.ref.injEq, Value.long.injEq, and_assoc, exists_and_left, exists_eq_left']
    try simp only [forall_eq]
    simp only [mset_app, if_true, if_false, Nat.reduceEqDiff]
    refine ⟨m_76 hg, fun y => ⟨m_76 hg, m_76 hg, m_76 hg, m_76 hg, m_76 hg, m_76 hg, iE36 (16 - 0) _ _ _ ?_⟩, fun y => h0 (Decidable.not_not.mp y)⟩
    rw [hI36]
    exact ⟨0, rfl, rfl, by omega, rfl, y, ((Sm.rf.set _ (by unfold YB; omega)).set _ (by unfold YB; omega)).set _ (by unfold YB; omega), by simp [mset_app], by simp [mset_app], by simp [mset_app], fun j => by simp [mset_app], fun j hj => absurd hj (by omega)⟩
/-- how many of the first n -/
def acn (p : Nat → Bool) : Nat → Nat
  | 0 => 0
  | h + 1 => acn p h + if p h then 1 else 0
theorem acn_le (p : Nat → Bool) : ∀ n, acn p n ≤ n
  | 0 => Nat.le_refl _
  | n + 1 => by
    have := acn_le p n
    simp only [acn]; split <;> omega
def cotA (D : DV) (a b c w : Int32) : Int32 := if w = 0 then D 7 0 else if w = 1 then D 7 0 - whl D (dn D) else if w = 2 then nI (acn (fun h => !gon D h) 16) else if w = 3 then a else if w = 4 then b else if w = 5 then c else -2
def T_X6_count (g : WG) (as : List Value) (M : MM) (Q : Option Value → MM → Prop) : Prop := ∃ w, as = [.ref 76, .int w] ∧ okM M ∧ ∀ M', Sm YL M M' → Q (some (.int (cotA (dm M) (M 76 12) (M 76 10) (M 76 9) w))) M'
set_option maxRecDepth 100000 in
set_option maxHeartbeats 1000000 in
theorem t_X6_count {l : Launch} {g : WG} (hg : Full g) : Ct l g yX6_count cX6_count 4 ((Option.some FieldType.int)) 7 (T_X6_count g) := by
  refine Ct.of (by decide) (fun as M Q h => ?_) (fun p e s m args below meth c as M Q h C => ?_)
  · obtain ⟨w, rfl, ho, h⟩ := h; exact ⟨by simp, by simp [Value.category]⟩
  · obtain ⟨w, rfl, ho, h⟩ := h
    have hn := ho.n
    have hmany := ho.many
    obtain ⟨I61, hI61⟩ : ∃ I : Nat → PP, I = (fun n lv st M' => ∃ k, lv = [(0, .ref 76), (2, .int (nI (acn (fun h => !gon (dm M) h) k))), (3, .int (nI k))] ∧ st = [] ∧ k ≤ 16 ∧ n = 16 - k ∧ Sm YL M M' ∧ w = 2 ∧ LKD M' (xm M) (dm M)) := ⟨_, rfl⟩
    obtain ⟨E61, hE61⟩ : ∃ E : PP, E = (fun lv st M => ∃ n, I61 n lv st M) := ⟨_, rfl⟩
    have iE61 : ∀ n lv st M, I61 n lv st M → E61 lv st M := fun n lv st M h => by rw [hE61]; exact ⟨n, h⟩
    have L61 : Sj p l e 7 s m args below meth c 4 g (MQ below (cQc g Q) args s 0 0 (gA g)) 61 E61 := by
      rw [hE61]
      refine s_ex (s_loop I61 (fun K61 k61 => WX6_count_61 C (t_X6_whole hg) (by decide) (t_X6_looks hg) (by decide) k61) ?_)
      intro n lv st M1 K61 hK61 hI; rw [hI61] at hI; obtain ⟨k, rfl, rfl, hk, rfl, hs, hw, hl⟩ := hI
      unfold BX6_count_61
      simp only [T_X6_whole, T_X6_looks, i_const, i_lconst, i_iload, i_aload, i_lload, i_istore, i_astore, i_lstore, i_iinc, i_bin, i_div, i_un, i_i2l, i_l2i, i_lbin, i_lcmp, i_if, i_icmp, i_dup, i_dup_x1, i_dup2, i_pop, i_geti, i_getr, i_getd, i_puti, i_putz, i_putd, i_iald, i_bald, i_aald, i_iast, i_bast, i_alen, i_keep, i_ret, i_retz, i_reta, i_retl, i_retv, i_callv, i_callk, i_calls, i_mm, i_copy, i_under, i_undld, i_ldcs, i_sw, q_swc0, q_swc1, q_lg0, q_lg1, q_lent0, q_lent1, lset, lset2, q_lins0, q_lins1, q_ldel0, q_ldel1, q_ldel20, q_ldel21, q_lkeep0, q_lkeep1, q_memb0, q_memb1, cat2, Nat.reduceBEq, decide_true, decide_false, decide_eq_true_eq, cond_true, cond_false, Bool.and_true, Bool.and_false, Bool.true_and, Bool.false_and, f_iadd, f_isub, f_imul, f_ishl, f_ishr, f_iushr, f_iand, f_ior, f_idiv, f_irem, f_ineg, f_i2b, f_i2s, f_ladd, f_lmul, c_eq, c_ne, c_lt, c_ge, c_gt, c_le, cc_eq, cc_ne, cc_lt, cc_ge, cc_gt, cc_le, rfo, aof, csum, Value.category, List.take, List.drop, List.reverse, List.reverseAux, List.map, List.sum_cons, List.sum_nil, List.cons_append, List.nil_append, Option.toList, List.mem_cons, List.not_mem_nil, List.length_cons, List.length_nil, reduceIte, Nat.reduceEqDiff, Nat.reduceAdd, Nat.reduceLeDiff, Nat.reduceLT, a_day, Nat.zero_ne_one, Nat.one_ne_zero, false_and, and_false, true_and, and_true, or_false, false_or, or_true, true_or, not_true_eq_false, not_false_eq_true, Nat.zero_add, Nat.add_zero, Nat.le_refl, Nat.lt_irrefl, Nat.zero_lt_succ, Nat.zero_le, forall_const, List.cons.injEq, Value.int.injEq, Value.ref.injEq, Value.long.injEq, and_assoc, exists_and_left, exists_eq_left']
      try simp only [forall_eq]
      have hac := acn_le (fun h => !gon (dm M) h) k
      rw [show (16 : Int32) = nI 16 from rfl, nI_leI (by decide) (by omega)]
      refine ⟨fun z => ?_, fun z => ?_⟩
      · have : k = 16 := by omega
        subst this
        have hfin := h M1 hs
        rw [cotA, if_neg (by rw [hw]; decide), if_neg (by rw [hw]; decide), if_pos hw] at hfin
        exact hfin
      · have hlt : k < 16 := by omega
        rw [nI_clamp (by omega), nI_1, nI_1, (hl k hlt).1]
        have fin : ∀ x, x = nI (acn (fun h => !gon (dm M) h) (k + 1)) → K61 [(0, .ref 76), (2, .int x), (3, .int (nI (k + 1)))] [] M1 := by
          intro x hx
          subst hx
          refine hK61 (16 - (k + 1)) _ _ _ (by omega) ?_
          rw [hI61]
          exact ⟨k + 1, rfl, rfl, by omega, rfl, hs, hw, hl⟩
        refine ⟨m_76 hg, m_90 hg, vm l_90 hlt (by decide), fun y => fin _ ?_, fun y => fin _ ?_⟩
        · have := b2t y
          simp only [acn, this]; rfl
        · have := b2n (Decidable.not_not.mp y)
          simp only [acn]; rw [if_pos (by simpa using this)]
    refine s_of (fun lv st M0 hs => ?_) (WX6_count_0 C (t_X6_whole hg) (by decide) (t_X6_looks hg) (by decide) L61)
    obtain ⟨rfl, rfl, rfl⟩ := hs
    unfold BX6_count_0
    simp only [T_X6_whole, T_X6_looks, i_const, i_lconst, i_iload, i_aload, i_lload, i_istore, i_astore, i_lstore, i_iinc, i_bin, i_div, i_un, i_i2l, i_l2i, i_lbin, i_lcmp, i_if, i_icmp, i_dup, i_dup_x1, i_dup2, i_pop, i_geti, i_getr, i_getd, i_puti, i_putz, i_putd, i_iald, i_bald, i_aald, i_iast, i_bast, i_alen, i_keep, i_ret, i_retz, i_reta, i_retl, i_retv, i_callv, i_callk, i_calls, i_mm, i_copy, i_under, i_undld, i_ldcs, i_sw, q_swc0, q_swc1, q_lg0, q_lg1, q_lent0, q_lent1, lset, lset2, q_lins0, q_lins1, q_ldel0, q_ldel1, q_ldel20, q_ldel21, q_lkeep0, q_lkeep1, q_memb0, q_memb1, cat2, Nat.reduceBEq, decide_true, decide_false, decide_eq_true_eq, cond_true, cond_false, Bool.and_true, Bool.and_false, Bool.true_and, Bool.false_and, f_iadd, f_isub, f_imul, f_ishl, f_ishr, f_iushr, f_iand, f_ior, f_idiv, f_irem, f_ineg, f_i2b, f_i2s, f_ladd, f_lmul, c_eq, c_ne, c_lt, c_ge, c_gt, c_le, cc_eq, cc_ne, cc_lt, cc_ge, cc_gt, cc_le, rfo, aof, csum, Value.category, List.take, List.drop, List.reverse, List.reverseAux, List.map, List.sum_cons, List.sum_nil, List.cons_append, List.nil_append, Option.toList, List.mem_cons, List.not_mem_nil, List.length_cons, List.length_nil, reduceIte, Nat.reduceEqDiff, Nat.reduceAdd, Nat.reduceLeDiff, Nat.reduceLT, a_day, Nat.zero_ne_one, Nat.one_ne_zero, false_and, and_false, true_and, and_true, or_false, false_or, or_true, true_or, not_true_eq_false, not_false_eq_true, Nat.zero_add, Nat.add_zero, Nat.le_refl, Nat.lt_irrefl, Nat.zero_lt_succ, Nat.zero_le, forall_const, List.cons.injEq, Value.int.injEq, Value.ref.injEq, Value.long.injEq, and_assoc, exists_and_left, exists_eq_left']
    try simp only [forall_eq]
    unfold cotA at h
    have d70 : dm M0 7 0 = M0 76 2 := rfl
    rw [d70] at h
    refine ⟨fun e0 => ?_, fun e0 => ⟨fun e1 => ?_, fun e1 => ⟨fun e2 => ?_, fun e2 => ⟨fun e3 => ?_, fun e3 => ⟨fun e4 => ?_, fun e4 => ⟨fun e5 => ?_, fun e5 => ?_⟩⟩⟩⟩⟩⟩
    · rw [if_pos e0] at h
      exact ⟨m_76 hg, h M0 Sm.rf⟩
    · rw [if_neg e0, if_pos e1] at h
      exact ⟨m_76 hg, (m_76 hg).1, (m_76 hg).2.1, hmany, hn, h M0 Sm.rf⟩
    · refine ⟨(m_76 hg).1, (m_76 hg).2.1, ho, fun M1 hs1 hl1 => iE61 (16 - 0) _ _ _ ?_⟩
      rw [hI61]
      exact ⟨0, rfl, rfl, by omega, rfl, hs1, e2, hl1⟩
    · rw [if_neg e0, if_neg e1, if_neg e2, if_pos e3] at h
      exact ⟨m_76 hg, h M0 Sm.rf⟩
    · rw [if_neg e0, if_neg e1, if_neg e2, if_neg e3, if_pos e4] at h
      exact ⟨m_76 hg, h M0 Sm.rf⟩
    · rw [if_neg e0, if_neg e1, if_neg e2, if_neg e3, if_neg e4, if_pos e5] at h
      exact ⟨m_76 hg, h M0 Sm.rf⟩
    · rw [if_neg e0, if_neg e1, if_neg e2, if_neg e3, if_neg e4, if_neg e5] at h
      exact h M0 Sm.rf
def unN (u k : Nat) : Prop := u = k ∨ k = 0 ∨ (u = 3 ∧ k = 1) ∨ (u = 4 ∧ k = 2)
def takA (D : DV) (s k : Int32) : Int32 := if ¬ (0 ≤ k ∧ k ≤ 5) then -2 else if ¬ (0 ≤ s ∧ s < nI (dn D)) then -11 else if D 1 s.toNatClampNeg = k ∨ k = 0 ∨ (D 1 s.toNatClampNeg = 3 ∧ k = 1) ∨ (D 1 s.toNatClampNeg = 4 ∧ k = 2) then D 2 s.toNatClampNeg else -13
theorem tak_k {u k : Nat} (hu : u < 6) (hk : k < 6) : (nI u = nI k ∨ nI k = 0 ∨ (nI u = 3 ∧ nI k = 1) ∨ (nI u = 4 ∧ nI k = 2)) ↔ unN u k := by
  have a : nI u = nI k ↔ u = k := nI_eq (by omega) (by omega)
  have b : nI k = 0 ↔ k = 0 := nI_eq (b := 0) (by omega) (by decide)
  have c : nI u = 3 ↔ u = 3 := nI_eq (b := 3) (by omega) (by decide)
  have d : nI k = 1 ↔ k = 1 := nI_eq (b := 1) (by omega) (by decide)
  have e : nI u = 4 ↔ u = 4 := nI_eq (b := 4) (by omega) (by decide)
  have f : nI k = 2 ↔ k = 2 := nI_eq (b := 2) (by omega) (by decide)
  rw [a, b, c, d, e, f]; rfl
def T_X6_taken (g : WG) (as : List Value) (M : MM) (Q : Option Value → MM → Prop) : Prop := ∃ s k, as = [.ref 76, .int s, .int k] ∧ okM M ∧ Q (some (.int (takA (dm M) s k))) M
set_option maxRecDepth 100000 in
set_option maxHeartbeats 2000000 in
theorem t_X6_taken {l : Launch} {g : WG} (hg : Full g) : Ct l g yX6_taken cX6_taken 4 ((Option.some FieldType.int)) 3 (T_X6_taken g) := by
  refine Ct.of (by decide) (fun as M Q h => ?_) (fun p e s m args below meth c as M Q h C => ?_)
  · obtain ⟨s0, k0, rfl, ho, h⟩ := h; exact ⟨by simp, by simp [Value.category]⟩
  · obtain ⟨s0, k0, rfl, ho, h⟩ := h
    have hn := ho.n
    have hmany := ho.many
    obtain ⟨I30, hI30⟩ : ∃ I : Nat → PP, I = (fun n lv st M' => M' = M ∧ ∃ sx k u0, k < 6 ∧ n < 6 ∧ sx < dn (dm M) ∧ s0 = nI sx ∧ k0 = nI k ∧ u0 < 6 ∧ dm M 1 sx = nI u0 ∧ (unN n k ↔ unN u0 k) ∧ lv = [(0, .ref 76), (1, .int (nI sx)), (2, .int (nI k)), (3, .int (nI n))] ∧ st = []) := ⟨_, rfl⟩
    obtain ⟨E30, hE30⟩ : ∃ E : PP, E = (fun lv st M => ∃ n, I30 n lv st M) := ⟨_, rfl⟩
    have iE30 : ∀ n lv st M, I30 n lv st M → E30 lv st M := fun n lv st M h => by rw [hE30]; exact ⟨n, h⟩
    have L30 : Sj p l e 3 s m args below meth c 4 g (MQ below (cQc g Q) args s 0 0 (gA g)) 30 E30 := by
      rw [hE30]
      refine s_ex (s_loop I30 (fun K30 k30 => WX6_taken_30 C (t_X6_within hg) (by decide) (t_X6_isSeam hg) (by decide) k30) ?_)
      intro n lv st M1 K30 hK30 hI; rw [hI30] at hI; obtain ⟨rfl, sx, k, u0, hk, hu, hs, es, ek, hu0, eu, hun, rfl, rfl⟩ := hI
      unfold BX6_taken_30
      generalize hB62 : BX6_taken_62 g Q (T_X6_within g) (T_X6_isSeam g) K30 = B62
      simp only [T_X6_within, T_X6_isSeam, i_const, i_lconst, i_iload, i_aload, i_lload, i_istore, i_astore, i_lstore, i_iinc, i_bin, i_div, i_un, i_i2l, i_l2i, i_lbin, i_lcmp, i_if, i_icmp, i_dup, i_dup_x1, i_dup2, i_pop, i_geti, i_getr, i_getd, i_puti, i_putz, i_putd, i_iald, i_bald, i_aald, i_iast, i_bast, i_alen, i_keep, i_ret, i_retz, i_reta, i_retl, i_retv, i_callv, i_callk, i_calls, i_mm, i_copy, i_under, i_undld, i_ldcs, i_sw, q_swc0, q_swc1, q_lg0, q_lg1, q_lent0, q_lent1, lset, lset2, q_lins0, q_lins1, q_ldel0, q_ldel1, q_ldel20, q_ldel21, q_lkeep0, q_lkeep1, q_memb0, q_memb1, cat2, Nat.reduceBEq, decide_true, decide_false, decide_eq_true_eq, cond_true, cond_false, Bool.and_true, Bool.and_false, Bool.true_and, Bool.false_and, f_iadd, f_isub, f_imul, f_ishl, f_ishr, f_iushr, f_iand, f_ior, f_idiv, f_irem, f_ineg, f_i2b, f_i2s, f_ladd, f_lmul, c_eq, c_ne, c_lt, c_ge, c_gt, c_le, cc_eq, cc_ne, cc_lt, cc_ge, cc_gt, cc_le, rfo, aof, csum, Value.category, List.take, List.drop, List.reverse, List.reverseAux, List.map, List.sum_cons, List.sum_nil, List.cons_append, List.nil_append, Option.toList, List.mem_cons, List.not_mem_nil, List.length_cons, List.length_nil, reduceIte, Nat.reduceEqDiff, Nat.reduceAdd, Nat.reduceLeDiff, Nat.reduceLT, a_day, Nat.zero_ne_one, Nat.one_ne_zero, false_and, and_false, true_and, and_true, or_false, false_or, or_true, true_or, not_true_eq_false, not_false_eq_true, Nat.zero_add, Nat.add_zero, Nat.le_refl, Nat.lt_irrefl, Nat.zero_lt_succ, Nat.zero_le, forall_const, List.cons.injEq, Value.int.injEq, Value.ref.injEq, Value.long.injEq, and_assoc, exists_and_left, exists_eq_left']
      try simp only [forall_eq]
      unfold takA at h
      have c1 : 0 ≤ k0 ∧ k0 ≤ 5 := by rw [ek]; exact ⟨nI_pos' (by omega), nI_le (b := 5) (by omega) (by decide)⟩
      have c2 : 0 ≤ s0 ∧ s0 < nI (dn (dm M1)) := by rw [es]; exact ⟨nI_pos' (by omega), (nI_ltI (by omega) (by omega)).mpr hs⟩
      rw [if_neg (fun q => q c1), if_neg (fun q => q c2), es, ek, nI_clamp (by omega), eu] at h
      have fin : (n = k ∨ n = 0) → BX6_taken_62 g Q (T_X6_within g) (T_X6_isSeam g) K30 [(0, .ref 76), (1, .int (nI sx)), (2, .int (nI k)), (3, .int (nI n))] [] M1 := by
        intro hc
        unfold BX6_taken_62
        simp only [i_const, i_lconst, i_iload, i_aload, i_lload, i_istore, i_astore, i_lstore, i_iinc, i_bin, i_div, i_un, i_i2l, i_l2i, i_lbin, i_lcmp, i_if, i_icmp, i_dup, i_dup_x1, i_dup2, i_pop, i_geti, i_getr, i_getd, i_puti, i_putz, i_putd, i_iald, i_bald, i_aald, i_iast, i_bast, i_alen, i_keep, i_ret, i_retz, i_reta, i_retl, i_retv, i_callv, i_callk, i_calls, i_mm, i_copy, i_under, i_undld, i_ldcs, i_sw, q_swc0, q_swc1, q_lg0, q_lg1, q_lent0, q_lent1, lset, lset2, q_lins0, q_lins1, q_ldel0, q_ldel1, q_ldel20, q_ldel21, q_lkeep0, q_lkeep1, q_memb0, q_memb1, cat2, Nat.reduceBEq, decide_true, decide_false, decide_eq_true_eq, cond_true, cond_false, Bool.and_true, Bool.and_false, Bool.true_and, Bool.false_and, f_iadd, f_isub, f_imul, f_ishl, f_ishr, f_iushr, f_iand, f_ior, f_idiv, f_irem, f_ineg, f_i2b, f_i2s, f_ladd, f_lmul, c_eq, c_ne, c_lt, c_ge, c_gt, c_le, cc_eq, cc_ne, cc_lt, cc_ge, cc_gt, cc_le, rfo, aof, csum, Value.category, List.take, List.drop, List.reverse, List.reverseAux, List.map, List.sum_cons, List.sum_nil, List.cons_append, List.nil_append, Option.toList, List.mem_cons, List.not_mem_nil, List.length_cons, List.length_nil, reduceIte, Nat.reduceEqDiff, Nat.reduceAdd, Nat.reduceLeDiff, Nat.reduceLT, a_day, Nat.zero_ne_one, Nat.one_ne_zero, false_and, and_false, true_and, and_true, or_false, false_or, or_true, true_or, not_true_eq_false, not_false_eq_true, Nat.zero_add, Nat.add_zero, Nat.le_refl, Nat.lt_irrefl, Nat.zero_lt_succ, Nat.zero_le, forall_const, List.cons.injEq, Value.int.injEq, Value.ref.injEq, Value.long.injEq, and_assoc, exists_and_left, exists_eq_left', forall_eq]
        rw [nI_clamp (by omega), nI_eq (by omega) (by omega), ← dm_s (M := M1) 2 (by decide) (by decide) hs]
        refine ⟨fun y => ?_, fun y => ⟨m_76 hg, m_79 hg, vm l_79 (by omega) (by decide), ?_⟩⟩
        · rwa [if_neg] at h
          rw [tak_k hu0 hk, ← hun]
          unfold unN
          omega
        · rwa [if_pos] at h
          rw [tak_k hu0 hk, ← hun]
          unfold unN
          omega
      have step : ∀ u', (n = 3 → u' = 1) → (n = 4 → u' = 2) → (¬ n = 3 → ¬ n = 4 → u' = 0) → ¬ n = k → 0 < n → K30 [(0, .ref 76), (1, .int (nI sx)), (2, .int (nI k)), (3, .int (nI u'))] [] M1 := by
        intro u' h3 h4 h5 hnk h0
        refine hK30 u' _ _ _ (by omega) ?_
        rw [hI30]
        refine ⟨rfl, sx, k, u0, hk, by omega, hs, es, ek, hu0, eu, ?_, rfl, rfl⟩
        rw [← hun]
        unfold unN
        omega
      rw [nI_eq (by omega) (by omega), show (3 : Int32) = nI 3 from rfl, show (4 : Int32) = nI 4 from rfl, nI_eq (by omega) (by omega), nI_eq (by omega) (by omega)]
      refine ⟨fun y => ?_, fun y => ⟨fun u => ?_, fun u => ⟨fun w3 => ⟨fun w4 => ?_, fun w4 => ?_⟩, fun w3 => ?_⟩⟩⟩
      · subst_vars; exact fin (Or.inl rfl)
      · have : n = 0 := by
          rcases Nat.eq_zero_or_pos n with q | q
          · exact q
          · exact absurd u (nI_nle q (by omega))
        have hf := fin (Or.inr this)
        subst hB62
        exact hf
      · have h0 : 0 < n := by
          rcases Nat.eq_zero_or_pos n with q | q
          · rw [q] at u; exact absurd (by decide) u
          · exact q
        exact step 0 (fun q => absurd q w3) (fun q => absurd q w4) (fun _ _ => rfl) y h0
      · have w4 := Decidable.not_not.mp w4
        exact step 2 (fun q => absurd q w3) (fun _ => rfl) (fun _ q => absurd w4 q) y (by omega)
      · have w3 := Decidable.not_not.mp w3
        exact step 1 (fun _ => rfl) (fun q => by omega) (fun q _ => absurd w3 q) y (by omega)
      
    refine s_of (fun lv st M0 hs => ?_) (WX6_taken_0 C (t_X6_within hg) (by decide) (t_X6_isSeam hg) (by decide) L30)
    obtain ⟨rfl, rfl, rfl⟩ := hs
    unfold BX6_taken_0
    generalize hB6 : BX6_taken_6 g Q (T_X6_within g) (T_X6_isSeam g) E30 = B6
    simp only [T_X6_within, T_X6_isSeam, i_const, i_lconst, i_iload, i_aload, i_lload, i_istore, i_astore, i_lstore, i_iinc, i_bin, i_div, i_un, i_i2l, i_l2i, i_lbin, i_lcmp, i_if, i_icmp, i_dup, i_dup_x1, i_dup2, i_pop, i_geti, i_getr, i_getd, i_puti, i_putz, i_putd, i_iald, i_bald, i_aald, i_iast, i_bast, i_alen, i_keep, i_ret, i_retz, i_reta, i_retl, i_retv, i_callv, i_callk, i_calls, i_mm, i_copy, i_under, i_undld, i_ldcs, i_sw, q_swc0, q_swc1, q_lg0, q_lg1, q_lent0, q_lent1, lset, lset2, q_lins0, q_lins1, q_ldel0, q_ldel1, q_ldel20, q_ldel21, q_lkeep0, q_lkeep1, q_memb0, q_memb1, cat2, Nat.reduceBEq, decide_true, decide_false, decide_eq_true_eq, cond_true, cond_false, Bool.and_true, Bool.and_false, Bool.true_and, Bool.false_and, f_iadd, f_isub, f_imul, f_ishl, f_ishr, f_iushr, f_iand, f_ior, f_idiv, f_irem, f_ineg, f_i2b, f_i2s, f_ladd, f_lmul, c_eq, c_ne, c_lt, c_ge, c_gt, c_le, cc_eq, cc_ne, cc_lt, cc_ge, cc_gt, cc_le, rfo, aof, csum, Value.category, List.take, List.drop, List.reverse, List.reverseAux, List.map, List.sum_cons, List.sum_nil, List.cons_append, List.nil_append, Option.toList, List.mem_cons, List.not_mem_nil, List.length_cons, List.length_nil, reduceIte, Nat.reduceEqDiff, Nat.reduceAdd, Nat.reduceLeDiff, Nat.reduceLT, a_day, Nat.zero_ne_one, Nat.one_ne_zero, false_and, and_false, true_and, and_true, or_false, false_or, or_true, true_or, not_true_eq_false, not_false_eq_true, Nat.zero_add, Nat.add_zero, Nat.le_refl, Nat.lt_irrefl, Nat.zero_lt_succ, Nat.zero_le, forall_const, List.cons.injEq, Value.int.injEq, Value.ref.injEq, Value.long.injEq, and_assoc, exists_and_left, exists_eq_left']
    try simp only [forall_eq]
    unfold takA at h
    subst hB6
    unfold BX6_taken_6
    generalize hB17 : BX6_taken_17 g Q (T_X6_within g) (T_X6_isSeam g) E30 = B17
    simp only [T_X6_within, T_X6_isSeam, i_const, i_lconst, i_iload, i_aload, i_lload, i_istore, i_astore, i_lstore, i_iinc, i_bin, i_div, i_un, i_i2l, i_l2i, i_lbin, i_lcmp, i_if, i_icmp, i_dup, i_dup_x1, i_dup2, i_pop, i_geti, i_getr, i_getd, i_puti, i_putz, i_putd, i_iald, i_bald, i_aald, i_iast, i_bast, i_alen, i_keep, i_ret, i_retz, i_reta, i_retl, i_retv, i_callv, i_callk, i_calls, i_mm, i_copy, i_under, i_undld, i_ldcs, i_sw, q_swc0, q_swc1, q_lg0, q_lg1, q_lent0, q_lent1, lset, lset2, q_lins0, q_lins1, q_ldel0, q_ldel1, q_ldel20, q_ldel21, q_lkeep0, q_lkeep1, q_memb0, q_memb1, cat2, Nat.reduceBEq, decide_true, decide_false, decide_eq_true_eq, cond_true, cond_false, Bool.and_true, Bool.and_false, Bool.true_and, Bool.false_and, f_iadd, f_isub, f_imul, f_ishl, f_ishr, f_iushr, f_iand, f_ior, f_idiv, f_irem, f_ineg, f_i2b, f_i2s, f_ladd, f_lmul, c_eq, c_ne, c_lt, c_ge, c_gt, c_le, cc_eq, cc_ne, cc_lt, cc_ge, cc_gt, cc_le, rfo, aof, csum, Value.category, List.take, List.drop, List.reverse, List.reverseAux, List.map, List.sum_cons, List.sum_nil, List.cons_append, List.nil_append, Option.toList, List.mem_cons, List.not_mem_nil, List.length_cons, List.length_nil, reduceIte, Nat.reduceEqDiff, Nat.reduceAdd, Nat.reduceLeDiff, Nat.reduceLT, a_day, Nat.zero_ne_one, Nat.one_ne_zero, false_and, and_false, true_and, and_true, or_false, false_or, or_true, true_or, not_true_eq_false, not_false_eq_true, Nat.zero_add, Nat.add_zero, Nat.le_refl, Nat.lt_irrefl, Nat.zero_lt_succ, Nat.zero_le, forall_const, List.cons.injEq, Value.int.injEq, Value.ref.injEq, Value.long.injEq, and_assoc, exists_and_left, exists_eq_left']
    try simp only [forall_eq]
    refine ⟨fun z1 => ⟨(m_76 hg).1, (m_76 hg).2.1, dn (dm M0), by omega, hmany, ?_⟩, fun z1 => ?_⟩
    · have c1 := b2t z1
      rw [if_neg (fun q => q c1)] at h
      subst hB17
      unfold BX6_taken_17
      simp only [T_X6_within, T_X6_isSeam, i_const, i_lconst, i_iload, i_aload, i_lload, i_istore, i_astore, i_lstore, i_iinc, i_bin, i_div, i_un, i_i2l, i_l2i, i_lbin, i_lcmp, i_if, i_icmp, i_dup, i_dup_x1, i_dup2, i_pop, i_geti, i_getr, i_getd, i_puti, i_putz, i_putd, i_iald, i_bald, i_aald, i_iast, i_bast, i_alen, i_keep, i_ret, i_retz, i_reta, i_retl, i_retv, i_callv, i_callk, i_calls, i_mm, i_copy, i_under, i_undld, i_ldcs, i_sw, q_swc0, q_swc1, q_lg0, q_lg1, q_lent0, q_lent1, lset, lset2, q_lins0, q_lins1, q_ldel0, q_ldel1, q_ldel20, q_ldel21, q_lkeep0, q_lkeep1, q_memb0, q_memb1, cat2, Nat.reduceBEq, decide_true, decide_false, decide_eq_true_eq, cond_true, cond_false, Bool.and_true, Bool.and_false, Bool.true_and, Bool.false_and, f_iadd, f_isub, f_imul, f_ishl, f_ishr, f_iushr, f_iand, f_ior, f_idiv, f_irem, f_ineg, f_i2b, f_i2s, f_ladd, f_lmul, c_eq, c_ne, c_lt, c_ge, c_gt, c_le, cc_eq, cc_ne, cc_lt, cc_ge, cc_gt, cc_le, rfo, aof, csum, Value.category, List.take, List.drop, List.reverse, List.reverseAux, List.map, List.sum_cons, List.sum_nil, List.cons_append, List.nil_append, Option.toList, List.mem_cons, List.not_mem_nil, List.length_cons, List.length_nil, reduceIte, Nat.reduceEqDiff, Nat.reduceAdd, Nat.reduceLeDiff, Nat.reduceLT, a_day, Nat.zero_ne_one, Nat.one_ne_zero, false_and, and_false, true_and, and_true, or_false, false_or, or_true, true_or, not_true_eq_false, not_false_eq_true, Nat.zero_add, Nat.add_zero, Nat.le_refl, Nat.lt_irrefl, Nat.zero_lt_succ, Nat.zero_le, forall_const, List.cons.injEq, Value.int.injEq, Value.ref.injEq, Value.long.injEq, and_assoc, exists_and_left, exists_eq_left']
      try simp only [forall_eq]
      refine ⟨fun z2 => ?_, fun z2 => ?_⟩
      · have c2 := b2t z2
        obtain ⟨k, hk31, ek⟩ := nI_of (i_not_lt.mpr c1.1)
        rw [ek] at c1
        have hk := (nI_leI (b := 5) hk31 (by decide)).mp c1.2
        obtain ⟨sx, hs31, es⟩ := nI_of (i_not_lt.mpr c2.1)
        rw [es] at c2
        have hs := (nI_ltI hs31 (by omega)).mp c2.2
        obtain ⟨-, -, -, -, -, -, ⟨u0, hu0, eu⟩, -⟩ := ho.seam hs
        rw [ek, es, nI_clamp hs31, ← dm_s (M := M0) 1 (by decide) (by decide) hs, eu]
        refine ⟨m_76 hg, m_78 hg, vm l_78 (by omega) (by decide), iE30 u0 _ _ _ ?_⟩
        rw [hI30]
        exact ⟨rfl, sx, k, u0, by omega, hu0, hs, es, ek, hu0, eu, Iff.rfl, rfl, rfl⟩
      · rw [if_pos (b2n (Decidable.not_not.mp z2))] at h
        exact h
    · rw [if_pos (b2n (Decidable.not_not.mp z1))] at h
      exact h
