/-! ===== which hours are gone, as bits ===== -/
def gmk (D : DV) : Nat → Nat
  | 0 => 0
  | s + 1 => if D 6 s = 0 then gmk D s ||| (2 ^ (la D s + 1) - 2 ^ fi D s) else gmk D s
theorem bits_nI : ∀ f l, f < 16 → l < 16 → f ≤ l → ((1 <<< ((nI l + 1) &&& 31)) - (1 <<< (nI f &&& 31)) : Int32) = nI (2 ^ (l + 1) - 2 ^ f) := by
  have key : ∀ f : Fin 16, ∀ l : Fin 16, f.val ≤ l.val → ((1 <<< ((nI l.val + 1) &&& 31)) - (1 <<< (nI f.val &&& 31)) : Int32) = nI (2 ^ (l.val + 1) - 2 ^ f.val) := by decide +kernel
  intro f l hf hl hfl
  exact key ⟨f, hf⟩ ⟨l, hl⟩ hfl
theorem or_nI (a b : Nat) : nI a ||| nI b = nI (a ||| b) := by
  apply Int32.toBitVec_inj.mp
  simp [nI]
theorem seg_bit : ∀ f l h, f < 16 → l < 16 → f ≤ l → h < 16 → (2 ^ (l + 1) - 2 ^ f).testBit h = (decide (f ≤ h) && decide (h ≤ l)) := by
  have key : ∀ f : Fin 16, ∀ l : Fin 16, ∀ h : Fin 16, f.val ≤ l.val → (2 ^ (l.val + 1) - 2 ^ f.val).testBit h.val = (decide (f.val ≤ h.val) && decide (h.val ≤ l.val)) := by decide +kernel
  intro f l h hf hl hfl hh
  exact key ⟨f, hf⟩ ⟨l, hl⟩ ⟨h, hh⟩ hfl
theorem gmk_lt {D : DV} : ∀ {n : Nat}, (∀ s, s < n → la D s < 16) → gmk D n < 65536
  | 0, _ => by show 0 < 65536; decide
  | n + 1, h => by
    have ih := gmk_lt (D := D) (n := n) (fun s hs => h s (by omega))
    simp only [gmk]
    split
    · have h1 : 2 ^ (la D n + 1) ≤ 2 ^ 16 := Nat.pow_le_pow_right (by decide) (by have := h n (by omega); omega)
      have h2 : 2 ^ (la D n + 1) - 2 ^ fi D n < 2 ^ 16 := by
        have : 0 < 2 ^ fi D n := Nat.two_pow_pos _
        omega
      exact Nat.or_lt_two_pow (n := 16) ih h2
    · exact ih
theorem gmk_bit {D : DV} {h : Nat} (hh : h < 16) : ∀ {n : Nat}, (∀ s, s < n → fi D s ≤ la D s ∧ la D s < 16) → (gmk D n).testBit h = gonN D n h
  | 0, _ => by simp [gmk, gonN]
  | n + 1, hs => by
    have ih := gmk_bit (D := D) hh (n := n) (fun s hq => hs s (by omega))
    obtain ⟨h1, h2⟩ := hs n (by omega)
    simp only [gmk, gonN]
    by_cases hb : D 6 n = 0
    · rw [if_pos hb, Nat.testBit_or, ih, seg_bit _ _ _ (by omega) h2 h1 hh]
      simp [hb]
    · rw [if_neg hb, ih]; simp [hb]
theorem shr_bit {G h : Nat} (hG : G < 65536) (hh : h < 16) : (nI G >>> (nI h &&& 31)) &&& 1 = if G.testBit h then 1 else 0 := by
  have hs : ∀ h, h < 16 → ((nI h &&& 31).toBitVec.smod 32).toNat = h := by decide
  rw [pk_shrN (by omega) (nI h &&& 31) h (hs h hh), pk_andN (n := G / 2 ^ h) (Nat.lt_of_le_of_lt (Nat.div_le_self _ _) (by omega)) 1 (by decide)]
  have : G.testBit h = decide (G / 2 ^ h % 2 = 1) := Nat.testBit_eq_decide_div_mod_eq
  rw [this]
  have h2 : G / 2 ^ h % 2 = 0 ∨ G / 2 ^ h % 2 = 1 := by omega
  rcases h2 with h2 | h2 <;> simp [h2, nI] <;> rfl
def T_X0_goneHours (g : WG) (as : List Value) (M : MM) (Q : Option Value → MM → Prop) : Prop := ∃ (q : Nat), as = [.ref q] ∧ okD M q ∧ Q (some (.int (nI (gmk (dv M q) (dn (dv M q)))))) M
set_option maxRecDepth 100000 in
set_option maxHeartbeats 1000000 in
theorem t_X0_goneHours {l : Launch} {g : WG} (hg : Full g) : Ct l g yX0_goneHours cX0_goneHours 3 ((Option.some FieldType.int)) 2 (T_X0_goneHours g) := by
  refine Ct.of (by decide) (fun as M Q h => ?_) (fun p e s m args below meth c as M Q h C => ?_)
  · obtain ⟨q, rfl, hq, h⟩ := h; exact ⟨by simp, by simp [Value.category]⟩
  · obtain ⟨q, rfl, hq, h⟩ := h
    obtain ⟨o1, o2, o3, o4, o5, ⟨l1, l2, l3, l4⟩, -⟩ := day_ok hg hq.1
    have h6 := hq.many
    have hn := hq.n
    obtain ⟨I4, hI4⟩ : ∃ I : Nat → PP, I = (fun n lv st M' => M' = M ∧ ∃ k, lv = [(0, .ref q), (1, .int (nI (gmk (dv M q) k))), (2, .int (nI k))] ∧ st = [] ∧ k ≤ dn (dv M q) ∧ n = dn (dv M q) - k) := ⟨_, rfl⟩
    obtain ⟨E4, hE4⟩ : ∃ E : PP, E = (fun lv st M => ∃ n, I4 n lv st M) := ⟨_, rfl⟩
    have iE4 : ∀ n lv st M, I4 n lv st M → E4 lv st M := fun n lv st M h => by rw [hE4]; exact ⟨n, h⟩
    have L4 : Sj p l e 2 s m args below meth c 3 g (MQ below (cQc g Q) args s 0 0 (gA g)) 4 E4 := by
      rw [hE4]
      refine s_ex (s_loop I4 (fun K4 k4 => WX0_goneHours_4 C (t_X1_bits hg) (by decide) k4) ?_)
      intro n lv st M1 K4 hK4 hI; rw [hI4] at hI; obtain ⟨rfl, k, rfl, rfl, hk, rfl⟩ := hI
      unfold BX0_goneHours_4
      generalize hB38 : BX0_goneHours_38 g Q (T_X1_bits g) K4 = B38
      simp only [T_X1_bits, i_const, i_lconst, i_iload, i_aload, i_lload, i_istore, i_astore, i_lstore, i_iinc, i_bin, i_div, i_un, i_i2l, i_l2i, i_lbin, i_lcmp, i_if, i_icmp, i_dup, i_dup_x1, i_dup2, i_pop, i_geti, i_getr, i_getd, i_puti, i_putz, i_putd, i_iald, i_bald, i_aald, i_iast, i_bast, i_alen, i_keep, i_ret, i_retz, i_reta, i_retl, i_retv, i_callv, i_callk, i_calls, i_mm, i_copy, i_under, i_undld, i_ldcs, i_sw, q_swc0, q_swc1, q_lg0, q_lg1, q_lent0, q_lent1, lset, lset2, q_lins0, q_lins1, q_ldel0, q_ldel1, q_ldel20, q_ldel21, q_lkeep0, q_lkeep1, q_memb0, q_memb1, cat2, Nat.reduceBEq, decide_true, decide_false, decide_eq_true_eq, cond_true, cond_false, Bool.and_true, Bool.and_false, Bool.true_and, Bool.false_and, f_iadd, f_isub, f_imul, f_ishl, f_ishr, f_iushr, f_iand, f_ior, f_idiv, f_irem, f_ineg, f_i2b, f_i2s, f_ladd, f_lmul, c_eq, c_ne, c_lt, c_ge, c_gt, c_le, cc_eq, cc_ne, cc_lt, cc_ge, cc_gt, cc_le, rfo, aof, csum, Value.category, List.take, List.drop, List.reverse, List.reverseAux, List.map, List.sum_cons, List.sum_nil, List.cons_append, List.nil_append, Option.toList, List.mem_cons, List.not_mem_nil, List.length_cons, List.length_nil, reduceIte, Nat.reduceEqDiff, Nat.reduceAdd, Nat.reduceLeDiff, Nat.reduceLT, a_day, Nat.zero_ne_one, Nat.one_ne_zero, false_and, and_false, true_and, and_true, or_false, false_or, or_true, true_or, not_true_eq_false, not_false_eq_true, Nat.zero_add, Nat.add_zero, Nat.le_refl, Nat.lt_irrefl, Nat.zero_lt_succ, Nat.zero_le, forall_const, List.cons.injEq, Value.int.injEq, Value.ref.injEq, Value.long.injEq, and_assoc, exists_and_left, exists_eq_left']
      try simp only [forall_eq]
      rw [h6]
      refine ⟨o1, fun z => ?_, fun z => ?_⟩
      · have hkk : k = dn (dv M1 q) := by
          have := (nI_leI (a := dn (dv M1 q)) (b := k) (by omega) (by omega)).mp z
          omega
        rw [hkk]; exact h
      · have hlt : k < dn (dv M1 q) := by
          rcases Nat.lt_or_ge k (dn (dv M1 q)) with w | w
          · exact w
          · exact absurd (nI_le w (by omega)) z
        have hb : M1 (q + 5 + k) 5 = dv M1 q 6 k := (dv_s 5 (by omega) hlt).symm
        have hf : M1 (q + 5 + k) 2 = dv M1 q 3 k := (dv_s 2 (by omega) hlt).symm
        have hl : M1 (q + 5 + k) 3 = dv M1 q 4 k := (dv_s 3 (by omega) hlt).symm
        obtain ⟨w1, w2, w3, w4, -⟩ := hq.seam hlt
        have fin : ∀ a, nI (gmk (dv M1 q) k) ||| a = nI (gmk (dv M1 q) (k + 1)) → B38 [(0, .ref q), (1, .int (nI (gmk (dv M1 q) k))), (2, .int (nI k))] [.int a, .int (nI (gmk (dv M1 q) k))] M1 := by
          intro a ha
          subst hB38
          unfold BX0_goneHours_38
          simp only [T_X1_bits, i_const, i_lconst, i_iload, i_aload, i_lload, i_istore, i_astore, i_lstore, i_iinc, i_bin, i_div, i_un, i_i2l, i_l2i, i_lbin, i_lcmp, i_if, i_icmp, i_dup, i_dup_x1, i_dup2, i_pop, i_geti, i_getr, i_getd, i_puti, i_putz, i_putd, i_iald, i_bald, i_aald, i_iast, i_bast, i_alen, i_keep, i_ret, i_retz, i_reta, i_retl, i_retv, i_callv, i_callk, i_calls, i_mm, i_copy, i_under, i_undld, i_ldcs, i_sw, q_swc0, q_swc1, q_lg0, q_lg1, q_lent0, q_lent1, lset, lset2, q_lins0, q_lins1, q_ldel0, q_ldel1, q_ldel20, q_ldel21, q_lkeep0, q_lkeep1, q_memb0, q_memb1, cat2, Nat.reduceBEq, decide_true, decide_false, decide_eq_true_eq, cond_true, cond_false, Bool.and_true, Bool.and_false, Bool.true_and, Bool.false_and, f_iadd, f_isub, f_imul, f_ishl, f_ishr, f_iushr, f_iand, f_ior, f_idiv, f_irem, f_ineg, f_i2b, f_i2s, f_ladd, f_lmul, c_eq, c_ne, c_lt, c_ge, c_gt, c_le, cc_eq, cc_ne, cc_lt, cc_ge, cc_gt, cc_le, rfo, aof, csum, Value.category, List.take, List.drop, List.reverse, List.reverseAux, List.map, List.sum_cons, List.sum_nil, List.cons_append, List.nil_append, Option.toList, List.mem_cons, List.not_mem_nil, List.length_cons, List.length_nil, reduceIte, Nat.reduceEqDiff, Nat.reduceAdd, Nat.reduceLeDiff, Nat.reduceLT, a_day, Nat.zero_ne_one, Nat.one_ne_zero, false_and, and_false, true_and, and_true, or_false, false_or, or_true, true_or, not_true_eq_false, not_false_eq_true, Nat.zero_add, Nat.add_zero, Nat.le_refl, Nat.lt_irrefl, Nat.zero_lt_succ, Nat.zero_le, forall_const, List.cons.injEq, Value.int.injEq, Value.ref.injEq, Value.long.injEq, and_assoc, exists_and_left, exists_eq_left']
          try simp only [forall_eq]
          rw [ha]
          refine hK4 (dn (dv M1 q) - (k + 1)) _ _ _ (by omega) ?_
          rw [hI4]
          exact ⟨rfl, k + 1, by rw [nI_1], rfl, by omega, rfl⟩
        rw [nI_clamp (by omega)]
        have so := seam_ok (s := k) hg hq.1 (by omega)
        refine ⟨o1, o3, vp_in_nI (by omega) (by omega), so, fun y => ⟨o1, o3, vp_in_nI (by omega) (by omega), so.1, so.2.1, so, fin _ ?_⟩, fun y => fin _ ?_⟩
        · rw [hf, hl, w1, w2, bits_nI _ _ (by omega) w4 w3, or_nI]
          rw [hb] at y; simp only [gmk, y, if_true]
        · rw [hb] at y; simp only [gmk, y, if_false]; rw [show (0 : Int32) = nI 0 from rfl, or_nI, Nat.or_zero]
    refine s_of (fun lv st M0 hs => ?_) (WX0_goneHours_0 C (t_X1_bits hg) (by decide) L4)
    obtain ⟨rfl, rfl, rfl⟩ := hs
    unfold BX0_goneHours_0
    simp only [T_X1_bits, i_const, i_lconst, i_iload, i_aload, i_lload, i_istore, i_astore, i_lstore, i_iinc, i_bin, i_div, i_un, i_i2l, i_l2i, i_lbin, i_lcmp, i_if, i_icmp, i_dup, i_dup_x1, i_dup2, i_pop, i_geti, i_getr, i_getd, i_puti, i_putz, i_putd, i_iald, i_bald, i_aald, i_iast, i_bast, i_alen, i_keep, i_ret, i_retz, i_reta, i_retl, i_retv, i_callv, i_callk, i_calls, i_mm, i_copy, i_under, i_undld, i_ldcs, i_sw, q_swc0, q_swc1, q_lg0, q_lg1, q_lent0, q_lent1, lset, lset2, q_lins0, q_lins1, q_ldel0, q_ldel1, q_ldel20, q_ldel21, q_lkeep0, q_lkeep1, q_memb0, q_memb1, cat2, Nat.reduceBEq, decide_true, decide_false, decide_eq_true_eq, cond_true, cond_false, Bool.and_true, Bool.and_false, Bool.true_and, Bool.false_and, f_iadd, f_isub, f_imul, f_ishl, f_ishr, f_iushr, f_iand, f_ior, f_idiv, f_irem, f_ineg, f_i2b, f_i2s, f_ladd, f_lmul, c_eq, c_ne, c_lt, c_ge, c_gt, c_le, cc_eq, cc_ne, cc_lt, cc_ge, cc_gt, cc_le, rfo, aof, csum, Value.category, List.take, List.drop, List.reverse, List.reverseAux, List.map, List.sum_cons, List.sum_nil, List.cons_append, List.nil_append, Option.toList, List.mem_cons, List.not_mem_nil, List.length_cons, List.length_nil, reduceIte, Nat.reduceEqDiff, Nat.reduceAdd, Nat.reduceLeDiff, Nat.reduceLT, a_day, Nat.zero_ne_one, Nat.one_ne_zero, false_and, and_false, true_and, and_true, or_false, false_or, or_true, true_or, not_true_eq_false, not_false_eq_true, Nat.zero_add, Nat.add_zero, Nat.le_refl, Nat.lt_irrefl, Nat.zero_lt_succ, Nat.zero_le, forall_const, List.cons.injEq, Value.int.injEq, Value.ref.injEq, Value.long.injEq, and_assoc, exists_and_left, exists_eq_left']
    try simp only [forall_eq]
    refine iE4 (dn (dv M0 q) - 0) _ _ _ ?_
    rw [hI4]
    exact ⟨rfl, 0, rfl, rfl, by omega, rfl⟩
def T_X0_leftAhead (g : WG) (as : List Value) (M : MM) (Q : Option Value → MM → Prop) : Prop := ∃ (q f G : Nat), as = [.ref q, .int (nI f)] ∧ okq g 0 q ∧ f < 17 ∧ G < 65536 ∧ M q 7 = nI G ∧ Q (some (.int (ahd (fun h => G.testBit h) f))) M
set_option maxRecDepth 100000 in
set_option maxHeartbeats 1000000 in
theorem t_X0_leftAhead {l : Launch} {g : WG} (hg : Full g) : Ct l g yX0_leftAhead cX0_leftAhead 3 ((Option.some FieldType.int)) 1 (T_X0_leftAhead g) := by
  refine Ct.of (by decide) (fun as M Q h => ?_) (fun p e s m args below meth c as M Q h C => ?_)
  · obtain ⟨q, f, G, rfl, ho, hf, hG, h7, h⟩ := h; exact ⟨by simp, by simp [Value.category]⟩
  · obtain ⟨q, f, G, rfl, ho, hf, hG, h7, h⟩ := h
    obtain ⟨I4, hI4⟩ : ∃ I : Nat → PP, I = (fun n lv st M' => M' = M ∧ lv = [(0, .ref q), (2, .int (nI n - 1))] ∧ st = [] ∧ n ≤ f ∧ ahd (fun h => G.testBit h) n = ahd (fun h => G.testBit h) f) := ⟨_, rfl⟩
    obtain ⟨E4, hE4⟩ : ∃ E : PP, E = (fun lv st M => ∃ n, I4 n lv st M) := ⟨_, rfl⟩
    have iE4 : ∀ n lv st M, I4 n lv st M → E4 lv st M := fun n lv st M h => by rw [hE4]; exact ⟨n, h⟩
    have L4 : Sj p l e 1 s m args below meth c 3 g (MQ below (cQc g Q) args s 0 0 (gA g)) 4 E4 := by
      rw [hE4]
      refine s_ex (s_loop I4 (fun K4 k4 => WX0_leftAhead_4 C k4) ?_)
      intro n lv st M1 K4 hK4 hI; rw [hI4] at hI; obtain ⟨rfl, rfl, rfl, hnf, ha⟩ := hI
      unfold BX0_leftAhead_4
      simp only [i_const, i_lconst, i_iload, i_aload, i_lload, i_istore, i_astore, i_lstore, i_iinc, i_bin, i_div, i_un, i_i2l, i_l2i, i_lbin, i_lcmp, i_if, i_icmp, i_dup, i_dup_x1, i_dup2, i_pop, i_geti, i_getr, i_getd, i_puti, i_putz, i_putd, i_iald, i_bald, i_aald, i_iast, i_bast, i_alen, i_keep, i_ret, i_retz, i_reta, i_retl, i_retv, i_callv, i_callk, i_calls, i_mm, i_copy, i_under, i_undld, i_ldcs, i_sw, q_swc0, q_swc1, q_lg0, q_lg1, q_lent0, q_lent1, lset, lset2, q_lins0, q_lins1, q_ldel0, q_ldel1, q_ldel20, q_ldel21, q_lkeep0, q_lkeep1, q_memb0, q_memb1, cat2, Nat.reduceBEq, decide_true, decide_false, decide_eq_true_eq, cond_true, cond_false, Bool.and_true, Bool.and_false, Bool.true_and, Bool.false_and, f_iadd, f_isub, f_imul, f_ishl, f_ishr, f_iushr, f_iand, f_ior, f_idiv, f_irem, f_ineg, f_i2b, f_i2s, f_ladd, f_lmul, c_eq, c_ne, c_lt, c_ge, c_gt, c_le, cc_eq, cc_ne, cc_lt, cc_ge, cc_gt, cc_le, rfo, aof, csum, Value.category, List.take, List.drop, List.reverse, List.reverseAux, List.map, List.sum_cons, List.sum_nil, List.cons_append, List.nil_append, Option.toList, List.mem_cons, List.not_mem_nil, List.length_cons, List.length_nil, reduceIte, Nat.reduceEqDiff, Nat.reduceAdd, Nat.reduceLeDiff, Nat.reduceLT, a_day, Nat.zero_ne_one, Nat.one_ne_zero, false_and, and_false, true_and, and_true, or_false, false_or, or_true, true_or, not_true_eq_false, not_false_eq_true, Nat.zero_add, Nat.add_zero, Nat.le_refl, Nat.lt_irrefl, Nat.zero_lt_succ, Nat.zero_le, forall_const, List.cons.injEq, Value.int.injEq, Value.ref.injEq, Value.long.injEq, and_assoc, exists_and_left, exists_eq_left']
      try simp only [forall_eq]
      match n, hK4, hnf, ha with
      | 0, hK4, hnf, ha =>
        refine ⟨fun _ => ?_, fun z => absurd (by decide) z⟩
        rw [← ha] at h; exact h
      | n + 1, hK4, hnf, ha =>
        rw [nI_pred]
        refine ⟨fun z => absurd z (nI_pos (by omega)), fun _ => ⟨ho, ?_⟩⟩
        rw [h7, shr_bit hG (by omega)]
        refine ⟨fun z => ?_, fun z => ?_⟩
        · refine hK4 n _ _ _ (by omega) ?_
          rw [hI4]
          have hb : G.testBit n = true := by
            cases hb : G.testBit n with
            | true => rfl
            | false => rw [hb] at z; exact absurd rfl z
          refine ⟨rfl, by rw [Int32.sub_eq_add_neg], rfl, by omega, ?_⟩
          rw [← ha]; simp only [ahd, hb, if_true]
        · have hb : G.testBit n = false := by
            cases hb : G.testBit n with
            | false => rfl
            | true => rw [hb] at z; exact absurd (by decide) z
          rw [← ha] at h
          simp only [ahd, hb] at h
          exact h
    refine s_of (fun lv st M0 hs => ?_) (WX0_leftAhead_0 C L4)
    obtain ⟨rfl, rfl, rfl⟩ := hs
    unfold BX0_leftAhead_0
    simp only [i_const, i_lconst, i_iload, i_aload, i_lload, i_istore, i_astore, i_lstore, i_iinc, i_bin, i_div, i_un, i_i2l, i_l2i, i_lbin, i_lcmp, i_if, i_icmp, i_dup, i_dup_x1, i_dup2, i_pop, i_geti, i_getr, i_getd, i_puti, i_putz, i_putd, i_iald, i_bald, i_aald, i_iast, i_bast, i_alen, i_keep, i_ret, i_retz, i_reta, i_retl, i_retv, i_callv, i_callk, i_calls, i_mm, i_copy, i_under, i_undld, i_ldcs, i_sw, q_swc0, q_swc1, q_lg0, q_lg1, q_lent0, q_lent1, lset, lset2, q_lins0, q_lins1, q_ldel0, q_ldel1, q_ldel20, q_ldel21, q_lkeep0, q_lkeep1, q_memb0, q_memb1, cat2, Nat.reduceBEq, decide_true, decide_false, decide_eq_true_eq, cond_true, cond_false, Bool.and_true, Bool.and_false, Bool.true_and, Bool.false_and, f_iadd, f_isub, f_imul, f_ishl, f_ishr, f_iushr, f_iand, f_ior, f_idiv, f_irem, f_ineg, f_i2b, f_i2s, f_ladd, f_lmul, c_eq, c_ne, c_lt, c_ge, c_gt, c_le, cc_eq, cc_ne, cc_lt, cc_ge, cc_gt, cc_le, rfo, aof, csum, Value.category, List.take, List.drop, List.reverse, List.reverseAux, List.map, List.sum_cons, List.sum_nil, List.cons_append, List.nil_append, Option.toList, List.mem_cons, List.not_mem_nil, List.length_cons, List.length_nil, reduceIte, Nat.reduceEqDiff, Nat.reduceAdd, Nat.reduceLeDiff, Nat.reduceLT, a_day, Nat.zero_ne_one, Nat.one_ne_zero, false_and, and_false, true_and, and_true, or_false, false_or, or_true, true_or, not_true_eq_false, not_false_eq_true, Nat.zero_add, Nat.add_zero, Nat.le_refl, Nat.lt_irrefl, Nat.zero_lt_succ, Nat.zero_le, forall_const, List.cons.injEq, Value.int.injEq, Value.ref.injEq, Value.long.injEq, and_assoc, exists_and_left, exists_eq_left']
    try simp only [forall_eq]
    refine iE4 f _ _ _ ?_
    rw [hI4]
    exact ⟨rfl, rfl, rfl, Nat.le_refl _, rfl⟩
def T_X0_leftBehind (g : WG) (as : List Value) (M : MM) (Q : Option Value → MM → Prop) : Prop := ∃ (q l G : Nat), as = [.ref q, .int (nI l)] ∧ okq g 0 q ∧ l < 16 ∧ G < 65536 ∧ M q 7 = nI G ∧ Q (some (.int (bhd (fun h => G.testBit h) (15 - l) (l + 1)))) M
set_option maxRecDepth 100000 in
set_option maxHeartbeats 1000000 in
theorem t_X0_leftBehind {l : Launch} {g : WG} (hg : Full g) : Ct l g yX0_leftBehind cX0_leftBehind 3 ((Option.some FieldType.int)) 1 (T_X0_leftBehind g) := by
  refine Ct.of (by decide) (fun as M Q h => ?_) (fun p e s m args below meth c as M Q h C => ?_)
  · obtain ⟨q, l', G, rfl, ho, hf, hG, h7, h⟩ := h; exact ⟨by simp, by simp [Value.category]⟩
  · obtain ⟨q, l', G, rfl, ho, hf, hG, h7, h⟩ := h
    obtain ⟨I4, hI4⟩ : ∃ I : Nat → PP, I = (fun n lv st M' => M' = M ∧ ∃ i, lv = [(0, .ref q), (2, .int (nI i))] ∧ st = [] ∧ n + i = 16 ∧ bhd (fun h => G.testBit h) n i = bhd (fun h => G.testBit h) (15 - l') (l' + 1)) := ⟨_, rfl⟩
    obtain ⟨E4, hE4⟩ : ∃ E : PP, E = (fun lv st M => ∃ n, I4 n lv st M) := ⟨_, rfl⟩
    have iE4 : ∀ n lv st M, I4 n lv st M → E4 lv st M := fun n lv st M h => by rw [hE4]; exact ⟨n, h⟩
    have L4 : Sj p l e 1 s m args below meth c 3 g (MQ below (cQc g Q) args s 0 0 (gA g)) 4 E4 := by
      rw [hE4]
      refine s_ex (s_loop I4 (fun K4 k4 => WX0_leftBehind_4 C k4) ?_)
      intro n lv st M1 K4 hK4 hI; rw [hI4] at hI; obtain ⟨rfl, i, rfl, rfl, hni, ha⟩ := hI
      unfold BX0_leftBehind_4
      simp only [i_const, i_lconst, i_iload, i_aload, i_lload, i_istore, i_astore, i_lstore, i_iinc, i_bin, i_div, i_un, i_i2l, i_l2i, i_lbin, i_lcmp, i_if, i_icmp, i_dup, i_dup_x1, i_dup2, i_pop, i_geti, i_getr, i_getd, i_puti, i_putz, i_putd, i_iald, i_bald, i_aald, i_iast, i_bast, i_alen, i_keep, i_ret, i_retz, i_reta, i_retl, i_retv, i_callv, i_callk, i_calls, i_mm, i_copy, i_under, i_undld, i_ldcs, i_sw, q_swc0, q_swc1, q_lg0, q_lg1, q_lent0, q_lent1, lset, lset2, q_lins0, q_lins1, q_ldel0, q_ldel1, q_ldel20, q_ldel21, q_lkeep0, q_lkeep1, q_memb0, q_memb1, cat2, Nat.reduceBEq, decide_true, decide_false, decide_eq_true_eq, cond_true, cond_false, Bool.and_true, Bool.and_false, Bool.true_and, Bool.false_and, f_iadd, f_isub, f_imul, f_ishl, f_ishr, f_iushr, f_iand, f_ior, f_idiv, f_irem, f_ineg, f_i2b, f_i2s, f_ladd, f_lmul, c_eq, c_ne, c_lt, c_ge, c_gt, c_le, cc_eq, cc_ne, cc_lt, cc_ge, cc_gt, cc_le, rfo, aof, csum, Value.category, List.take, List.drop, List.reverse, List.reverseAux, List.map, List.sum_cons, List.sum_nil, List.cons_append, List.nil_append, Option.toList, List.mem_cons, List.not_mem_nil, List.length_cons, List.length_nil, reduceIte, Nat.reduceEqDiff, Nat.reduceAdd, Nat.reduceLeDiff, Nat.reduceLT, a_day, Nat.zero_ne_one, Nat.one_ne_zero, false_and, and_false, true_and, and_true, or_false, false_or, or_true, true_or, not_true_eq_false, not_false_eq_true, Nat.zero_add, Nat.add_zero, Nat.le_refl, Nat.lt_irrefl, Nat.zero_lt_succ, Nat.zero_le, forall_const, List.cons.injEq, Value.int.injEq, Value.ref.injEq, Value.long.injEq, and_assoc, exists_and_left, exists_eq_left']
      try simp only [forall_eq]
      have c16 : (16 : Int32) = nI 16 := rfl
      rw [c16]
      match n, hK4, hni, ha with
      | 0, hK4, hni, ha =>
        refine ⟨fun _ => ?_, fun z => absurd (nI_le (by omega) (by omega)) z⟩
        rw [← ha] at h; exact h
      | n + 1, hK4, hni, ha =>
        refine ⟨fun z => absurd z (nI_ge (by omega) (by omega)), fun _ => ⟨ho, ?_⟩⟩
        rw [h7, shr_bit hG (by omega)]
        refine ⟨fun z => ?_, fun z => ?_⟩
        · refine hK4 n _ _ _ (by omega) ?_
          rw [hI4]
          have hb : G.testBit i = true := by
            cases hb : G.testBit i with
            | true => rfl
            | false => rw [hb] at z; exact absurd rfl z
          refine ⟨rfl, i + 1, by rw [nI_1], rfl, by omega, ?_⟩
          rw [← ha]; simp only [bhd, hb, if_true]
        · have hb : G.testBit i = false := by
            cases hb : G.testBit i with
            | false => rfl
            | true => rw [hb] at z; exact absurd (by decide) z
          rw [← ha] at h
          simp only [bhd, hb] at h
          exact h
      
    refine s_of (fun lv st M0 hs => ?_) (WX0_leftBehind_0 C L4)
    obtain ⟨rfl, rfl, rfl⟩ := hs
    unfold BX0_leftBehind_0
    simp only [i_const, i_lconst, i_iload, i_aload, i_lload, i_istore, i_astore, i_lstore, i_iinc, i_bin, i_div, i_un, i_i2l, i_l2i, i_lbin, i_lcmp, i_if, i_icmp, i_dup, i_dup_x1, i_dup2, i_pop, i_geti, i_getr, i_getd, i_puti, i_putz, i_putd, i_iald, i_bald, i_aald, i_iast, i_bast, i_alen, i_keep, i_ret, i_retz, i_reta, i_retl, i_retv, i_callv, i_callk, i_calls, i_mm, i_copy, i_under, i_undld, i_ldcs, i_sw, q_swc0, q_swc1, q_lg0, q_lg1, q_lent0, q_lent1, lset, lset2, q_lins0, q_lins1, q_ldel0, q_ldel1, q_ldel20, q_ldel21, q_lkeep0, q_lkeep1, q_memb0, q_memb1, cat2, Nat.reduceBEq, decide_true, decide_false, decide_eq_true_eq, cond_true, cond_false, Bool.and_true, Bool.and_false, Bool.true_and, Bool.false_and, f_iadd, f_isub, f_imul, f_ishl, f_ishr, f_iushr, f_iand, f_ior, f_idiv, f_irem, f_ineg, f_i2b, f_i2s, f_ladd, f_lmul, c_eq, c_ne, c_lt, c_ge, c_gt, c_le, cc_eq, cc_ne, cc_lt, cc_ge, cc_gt, cc_le, rfo, aof, csum, Value.category, List.take, List.drop, List.reverse, List.reverseAux, List.map, List.sum_cons, List.sum_nil, List.cons_append, List.nil_append, Option.toList, List.mem_cons, List.not_mem_nil, List.length_cons, List.length_nil, reduceIte, Nat.reduceEqDiff, Nat.reduceAdd, Nat.reduceLeDiff, Nat.reduceLT, a_day, Nat.zero_ne_one, Nat.one_ne_zero, false_and, and_false, true_and, and_true, or_false, false_or, or_true, true_or, not_true_eq_false, not_false_eq_true, Nat.zero_add, Nat.add_zero, Nat.le_refl, Nat.lt_irrefl, Nat.zero_lt_succ, Nat.zero_le, forall_const, List.cons.injEq, Value.int.injEq, Value.ref.injEq, Value.long.injEq, and_assoc, exists_and_left, exists_eq_left']
    try simp only [forall_eq]
    refine iE4 (15 - l') _ _ _ ?_
    rw [hI4]
    exact ⟨rfl, l' + 1, by rw [nI_1], rfl, by omega, rfl⟩
