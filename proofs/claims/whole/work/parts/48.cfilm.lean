/-! ===== the class: film, drawn, chance ===== -/
def YG (a b : Nat) : Prop := YC a b ∨ (32 ≤ a ∧ a < 40)
theorem YC_G {a b : Nat} (h : YC a b) : YG a b := Or.inl h
theorem YG_no {a b : Nat} (h : ¬ (32 ≤ a ∧ a < 64) ∧ ¬ (8 ≤ a ∧ a < 32 ∧ a % 4 = 3)) : ¬ YG a b := by unfold YG YC XD XP isPile; omega
theorem xc_G {M M' : MM} {t : Nat} (h : Sm YG M M') (ht : t < 6) : xc M' (8 + 4 * t) = xc M (8 + 4 * t) ∧ (txOK M (8 + 4 * t) → txOK M' (8 + 4 * t)) :=
  xc_sm h (fun j => YG_no (by omega)) (fun j => YG_no (by omega))
theorem AG_G {M M' : MM} {T : Nat} (h : Sm YG M M') (hT : T ≤ 6) : AG (xc M) (xc M') T := fun t ht p _ => by rw [(xc_G h (by omega)).1]
theorem dv_G {M M' : MM} (h : Sm YG M M') (hn : dn (dv M 40) ≤ 7) : dv M' 40 = dv M 40 := dv_sm h (fun j q => q.elim (YC_41 (by omega)) (by omega)) (fun j hj q => q.elim (YC_40 (by omega)) (by omega)) (fun s j hs q => q.elim (YC_41 (by omega)) (by omega)) hn
theorem okG_to {M M' : MM} {q T : Nat} {D : DV} (hq : isD q) (h : Sm YG M M') (hd : dv M' q = D) (hw : wfD D T) (htx : ∀ t, t < T → txOK M (8 + 4 * t)) : okD M' q :=
  ⟨hq, T, by rw [hd]; exact hw, fun t ht => (xc_G h (by have := hw.2.2.2.2; omega)).2 (htx t ht)⟩
def T_X2_renew (g : WG) (as : List Value) (M : MM) (Q : Option Value → MM → Prop) : Prop := ∃ (i : Nat) (srt n : Int32), as = [.ref (32 + 2 * i), .int srt, .int n] ∧ i < 4 ∧ ∀ M', Sm (fun a b => (a = 32 + 2 * i ∧ (b = 1 ∨ b = 2)) ∨ a = 33 + 2 * i) M M' → M' (32 + 2 * i) 1 = srt → M' (32 + 2 * i) 2 = n → (∀ j, j < 40 → M' (33 + 2 * i) j = 0) → Q none M'
set_option maxRecDepth 100000 in
set_option maxHeartbeats 1000000 in
theorem t_X2_renew {l : Launch} {g : WG} (hg : Full g) : Ct l g yX2_renew cX2_renew 3 ((Option.none : Option FieldType)) 2 (T_X2_renew g) := by
  refine Ct.of (by decide) (fun as M Q h => ?_) (fun p e s m args below meth c as M Q h C => ?_)
  · obtain ⟨i, srt, n, rfl, hi, h⟩ := h; exact ⟨by simp, by simp [Value.category]⟩
  · obtain ⟨i, srt, n, rfl, hi, h⟩ := h
    refine s_of (fun lv st M0 hs => ?_) (WX2_renew_0 C (t_J7_fill_53178) (by decide))
    obtain ⟨rfl, rfl, rfl⟩ := hs
    unfold BX2_renew_0
    generalize hB8 : BX2_renew_8 g Q (T_J7_fill_53178 g) = B8
    simp only [T_J7_fill_53178, i_const, i_lconst, i_iload, i_aload, i_lload, i_istore, i_astore, i_lstore, i_iinc, i_bin, i_div, i_un, i_i2l, i_l2i, i_lbin, i_lcmp, i_if, i_icmp, i_dup, i_dup_x1, i_dup2, i_pop, i_geti, i_getr, i_getd, i_puti, i_putz, i_putd, i_iald, i_bald, i_aald, i_iast, i_bast, i_alen, i_keep, i_ret, i_retz, i_reta, i_retl, i_retv, i_callv, i_callk, i_calls, i_mm, i_copy, i_under, i_undld, i_ldcs, i_sw, q_swc0, q_swc1, q_lg0, q_lg1, q_lent0, q_lent1, lset, lset2, q_lins0, q_lins1, q_ldel0, q_ldel1, q_ldel20, q_ldel21, q_lkeep0, q_lkeep1, q_memb0, q_memb1, cat2, Nat.reduceBEq, decide_true, decide_false, decide_eq_true_eq, cond_true, cond_false, Bool.and_true, Bool.and_false, Bool.true_and, Bool.false_and, f_iadd, f_isub, f_imul, f_ishl, f_ishr, f_iushr, f_iand, f_ior, f_idiv, f_irem, f_ineg, f_i2b, f_i2s, f_ladd, f_lmul, c_eq, c_ne, c_lt, c_ge, c_gt, c_le, cc_eq, cc_ne, cc_lt, cc_ge, cc_gt, cc_le, rfo, aof, csum, Value.category, List.take, List.drop, List.reverse, List.reverseAux, List.map, List.sum_cons, List.sum_nil, List.cons_append, List.nil_append, Option.toList, List.mem_cons, List.not_mem_nil, List.length_cons, List.length_nil, reduceIte, Nat.reduceEqDiff, Nat.reduceAdd, Nat.reduceLeDiff, Nat.reduceLT, a_day, Nat.zero_ne_one, Nat.one_ne_zero, false_and, and_false, true_and, and_true, or_false, false_or, or_true, true_or, not_true_eq_false, not_false_eq_true, Nat.zero_add, Nat.add_zero, Nat.le_refl, Nat.lt_irrefl, Nat.zero_lt_succ, Nat.zero_le, forall_const, List.cons.injEq, Value.int.injEq, Value.ref.injEq, Value.long.injEq, and_assoc, exists_and_left, exists_eq_left']
    try simp only [forall_eq]
    obtain ⟨s1, s2, s3⟩ := sheet_ok hg hi
    have e33 : (32 + 2 * i + 1 : Nat) = 33 + 2 * i := by omega
    simp only [e33, s3]
    refine ⟨s1, s2, by decide, fun M1 hs1 hz => ?_⟩
    subst hB8
    unfold BX2_renew_8
    simp only [T_J7_fill_53178, i_const, i_lconst, i_iload, i_aload, i_lload, i_istore, i_astore, i_lstore, i_iinc, i_bin, i_div, i_un, i_i2l, i_l2i, i_lbin, i_lcmp, i_if, i_icmp, i_dup, i_dup_x1, i_dup2, i_pop, i_geti, i_getr, i_getd, i_puti, i_putz, i_putd, i_iald, i_bald, i_aald, i_iast, i_bast, i_alen, i_keep, i_ret, i_retz, i_reta, i_retl, i_retv, i_callv, i_callk, i_calls, i_mm, i_copy, i_under, i_undld, i_ldcs, i_sw, q_swc0, q_swc1, q_lg0, q_lg1, q_lent0, q_lent1, lset, lset2, q_lins0, q_lins1, q_ldel0, q_ldel1, q_ldel20, q_ldel21, q_lkeep0, q_lkeep1, q_memb0, q_memb1, cat2, Nat.reduceBEq, decide_true, decide_false, decide_eq_true_eq, cond_true, cond_false, Bool.and_true, Bool.and_false, Bool.true_and, Bool.false_and, f_iadd, f_isub, f_imul, f_ishl, f_ishr, f_iushr, f_iand, f_ior, f_idiv, f_irem, f_ineg, f_i2b, f_i2s, f_ladd, f_lmul, c_eq, c_ne, c_lt, c_ge, c_gt, c_le, cc_eq, cc_ne, cc_lt, cc_ge, cc_gt, cc_le, rfo, aof, csum, Value.category, List.take, List.drop, List.reverse, List.reverseAux, List.map, List.sum_cons, List.sum_nil, List.cons_append, List.nil_append, Option.toList, List.mem_cons, List.not_mem_nil, List.length_cons, List.length_nil, reduceIte, Nat.reduceEqDiff, Nat.reduceAdd, Nat.reduceLeDiff, Nat.reduceLT, a_day, Nat.zero_ne_one, Nat.one_ne_zero, false_and, and_false, true_and, and_true, or_false, false_or, or_true, true_or, not_true_eq_false, not_false_eq_true, Nat.zero_add, Nat.add_zero, Nat.le_refl, Nat.lt_irrefl, Nat.zero_lt_succ, Nat.zero_le, forall_const, List.cons.injEq, Value.int.injEq, Value.ref.injEq, Value.long.injEq, and_assoc, exists_and_left, exists_eq_left']
    try simp only [forall_eq]
    refine ⟨s1, s1, h _ ((((hs1.mono fun a b q => Or.inr q)).set _ (Or.inl ⟨rfl, Or.inl rfl⟩)).set _ (Or.inl ⟨rfl, Or.inr rfl⟩)) ?_ ?_ fun j hj => ?_⟩
    · rw [ms_j (by decide), ms_s]
    · rw [ms_s]
    · rw [ms_q (by omega), ms_q (by omega)]; exact hz j hj
def T_X2_hasFrom (g : WG) (as : List Value) (M : MM) (Q : Option Value → MM → Prop) : Prop := ∃ (i sz : Nat) (x n : Int32), as = [.ref (32 + 2 * i), .int x, .int n] ∧ i < 4 ∧ M (32 + 2 * i) 2 = nI sz ∧ sz ≤ 40 ∧ Q (some (.int (b2i (0 ≤ x ∧ 0 ≤ n ∧ x.toNatClampNeg + n.toNatClampNeg ≤ sz)))) M
set_option maxRecDepth 100000 in
set_option maxHeartbeats 1000000 in
theorem t_X2_hasFrom {l : Launch} {g : WG} (hg : Full g) : Ct l g yX2_hasFrom cX2_hasFrom 3 ((Option.some FieldType.boolean)) 1 (T_X2_hasFrom g) := by
  refine Ct.of (by decide) (fun as M Q h => ?_) (fun p e s m args below meth c as M Q h C => ?_)
  · obtain ⟨i, sz, x, n, rfl, hi, hsz, h40, h⟩ := h; exact ⟨by simp, by simp [Value.category]⟩
  · obtain ⟨i, sz, x, n, rfl, hi, hsz, h40, h⟩ := h
    refine s_of (fun lv st M0 hs => ?_) (WX2_hasFrom_0 C)
    obtain ⟨rfl, rfl, rfl⟩ := hs
    unfold BX2_hasFrom_0
    simp only [i_const, i_lconst, i_iload, i_aload, i_lload, i_istore, i_astore, i_lstore, i_iinc, i_bin, i_div, i_un, i_i2l, i_l2i, i_lbin, i_lcmp, i_if, i_icmp, i_dup, i_dup_x1, i_dup2, i_pop, i_geti, i_getr, i_getd, i_puti, i_putz, i_putd, i_iald, i_bald, i_aald, i_iast, i_bast, i_alen, i_keep, i_ret, i_retz, i_reta, i_retl, i_retv, i_callv, i_callk, i_calls, i_mm, i_copy, i_under, i_undld, i_ldcs, i_sw, q_swc0, q_swc1, q_lg0, q_lg1, q_lent0, q_lent1, lset, lset2, q_lins0, q_lins1, q_ldel0, q_ldel1, q_ldel20, q_ldel21, q_lkeep0, q_lkeep1, q_memb0, q_memb1, cat2, Nat.reduceBEq, decide_true, decide_false, decide_eq_true_eq, cond_true, cond_false, Bool.and_true, Bool.and_false, Bool.true_and, Bool.false_and, f_iadd, f_isub, f_imul, f_ishl, f_ishr, f_iushr, f_iand, f_ior, f_idiv, f_irem, f_ineg, f_i2b, f_i2s, f_ladd, f_lmul, c_eq, c_ne, c_lt, c_ge, c_gt, c_le, cc_eq, cc_ne, cc_lt, cc_ge, cc_gt, cc_le, rfo, aof, csum, Value.category, List.take, List.drop, List.reverse, List.reverseAux, List.map, List.sum_cons, List.sum_nil, List.cons_append, List.nil_append, Option.toList, List.mem_cons, List.not_mem_nil, List.length_cons, List.length_nil, reduceIte, Nat.reduceEqDiff, Nat.reduceAdd, Nat.reduceLeDiff, Nat.reduceLT, a_day, Nat.zero_ne_one, Nat.one_ne_zero, false_and, and_false, true_and, and_true, or_false, false_or, or_true, true_or, not_true_eq_false, not_false_eq_true, Nat.zero_add, Nat.add_zero, Nat.le_refl, Nat.lt_irrefl, Nat.zero_lt_succ, Nat.zero_le, forall_const, List.cons.injEq, Value.int.injEq, Value.ref.injEq, Value.long.injEq, and_assoc, exists_and_left, exists_eq_left']
    try simp only [forall_eq]
    obtain ⟨s1, s2, s3⟩ := sheet_ok hg hi
    rw [hsz]
    refine ⟨fun y => ?_, fun y => ⟨fun u => ?_, fun u => ⟨s1, ?_⟩⟩⟩
    · rwa [b2i_f (fun q => i_not_lt.mpr q.1 y)] at h
    · rwa [b2i_f (fun q => i_not_lt.mpr q.2.1 u)] at h
    · obtain ⟨a, ha, rfl⟩ := nI_of y
      obtain ⟨b, hb, rfl⟩ := nI_of u
      rw [nI_clamp ha, nI_clamp hb] at h
      have e : nI sz - nI b < nI a ↔ ¬ a + b ≤ sz := by
        rw [i_lt, Int32.toInt_sub, nI_toInt (by omega), nI_toInt hb, nI_toInt ha]
        simp only [Int.bmod]
        omega
      rw [e]
      refine ⟨fun z => ?_, fun z => ?_⟩
      · rwa [b2i_f (fun q => z q.2.2)] at h
      · rwa [b2i_t ⟨nI_pos' ha, nI_pos' hb, Decidable.not_not.mp z⟩] at h
def T_X2_put (g : WG) (as : List Value) (M : MM) (Q : Option Value → MM → Prop) : Prop := ∃ (i k : Nat) (v : Int32), as = [.ref (32 + 2 * i), .int (nI k), .int v] ∧ i < 4 ∧ k < 40 ∧ Q none (mset M (33 + 2 * i) k (cnv (M (32 + 2 * i) 1) v))
set_option maxRecDepth 100000 in
set_option maxHeartbeats 1000000 in
theorem t_X2_put {l : Launch} {g : WG} (hg : Full g) : Ct l g yX2_put cX2_put 3 ((Option.none : Option FieldType)) 1 (T_X2_put g) := by
  refine Ct.of (by decide) (fun as M Q h => ?_) (fun p e s m args below meth c as M Q h C => ?_)
  · obtain ⟨i, k, v, rfl, hi, hk, h⟩ := h; exact ⟨by simp, by simp [Value.category]⟩
  · obtain ⟨i, k, v, rfl, hi, hk, h⟩ := h
    refine s_of (fun lv st M0 hs => ?_) (WX2_put_0 C)
    obtain ⟨rfl, rfl, rfl⟩ := hs
    unfold BX2_put_0
    simp only [i_const, i_lconst, i_iload, i_aload, i_lload, i_istore, i_astore, i_lstore, i_iinc, i_bin, i_div, i_un, i_i2l, i_l2i, i_lbin, i_lcmp, i_if, i_icmp, i_dup, i_dup_x1, i_dup2, i_pop, i_geti, i_getr, i_getd, i_puti, i_putz, i_putd, i_iald, i_bald, i_aald, i_iast, i_bast, i_alen, i_keep, i_ret, i_retz, i_reta, i_retl, i_retv, i_callv, i_callk, i_calls, i_mm, i_copy, i_under, i_undld, i_ldcs, i_sw, q_swc0, q_swc1, q_lg0, q_lg1, q_lent0, q_lent1, lset, lset2, q_lins0, q_lins1, q_ldel0, q_ldel1, q_ldel20, q_ldel21, q_lkeep0, q_lkeep1, q_memb0, q_memb1, cat2, Nat.reduceBEq, decide_true, decide_false, decide_eq_true_eq, cond_true, cond_false, Bool.and_true, Bool.and_false, Bool.true_and, Bool.false_and, f_iadd, f_isub, f_imul, f_ishl, f_ishr, f_iushr, f_iand, f_ior, f_idiv, f_irem, f_ineg, f_i2b, f_i2s, f_ladd, f_lmul, c_eq, c_ne, c_lt, c_ge, c_gt, c_le, cc_eq, cc_ne, cc_lt, cc_ge, cc_gt, cc_le, rfo, aof, csum, Value.category, List.take, List.drop, List.reverse, List.reverseAux, List.map, List.sum_cons, List.sum_nil, List.cons_append, List.nil_append, Option.toList, List.mem_cons, List.not_mem_nil, List.length_cons, List.length_nil, reduceIte, Nat.reduceEqDiff, Nat.reduceAdd, Nat.reduceLeDiff, Nat.reduceLT, a_day, Nat.zero_ne_one, Nat.one_ne_zero, false_and, and_false, true_and, and_true, or_false, false_or, or_true, true_or, not_true_eq_false, not_false_eq_true, Nat.zero_add, Nat.add_zero, Nat.le_refl, Nat.lt_irrefl, Nat.zero_lt_succ, Nat.zero_le, forall_const, List.cons.injEq, Value.int.injEq, Value.ref.injEq, Value.long.injEq, and_assoc, exists_and_left, exists_eq_left']
    try simp only [forall_eq]
    obtain ⟨s1, s2, s3⟩ := sheet_ok hg hi
    have e33 : (32 + 2 * i + 1 : Nat) = 33 + 2 * i := by omega
    simp only [e33, s3]
    rw [nI_clamp (by omega)]
    unfold cnv at h
    have vp : vp_in (nI k) 40 := vp_in_nI hk (by decide)
    refine ⟨s1, fun e0 => ⟨s1, s1, fun e1 => ⟨s2, vp, ?_⟩, fun e1 => ⟨s2, vp, ?_⟩⟩, fun e0 => ⟨s1, s2, vp, ?_⟩⟩
    · rwa [if_neg e0, if_neg e1] at h
    · rwa [if_neg e0, if_pos (Decidable.not_not.mp e1)] at h
    · rwa [if_pos (Decidable.not_not.mp e0)] at h
def T_X5_film (g : WG) (as : List Value) (M : MM) (Q : Option Value → MM → Prop) : Prop := ∃ sh n, as = [.ref 0, .int sh, .int n] ∧ okD M 40 ∧ (¬ ((0 ≤ sh ∧ sh ≤ 3) ∧ (0 ≤ n ∧ n ≤ 40)) → Q (some (.int (-2))) M) ∧ (∀ i k M', sh = nI i → i < 4 → n = nI k → k ≤ 40 → Sm (fun a b => YC a b ∨ (a = 32 + 2 * i ∧ (b = 1 ∨ b = 2)) ∨ a = 33 + 2 * i) M M' → M' (32 + 2 * i) 1 = 2 → M' (32 + 2 * i) 2 = nI k → (∀ j, j < 40 → M' (33 + 2 * i) j = if j < k then wor (xc M) (pasN (xc M) (dv M 40) j) else 0) → Q (some (.int (nI k))) M')
set_option maxRecDepth 100000 in
set_option maxHeartbeats 2000000 in
theorem t_X5_film {l : Launch} {g : WG} (hg : Full g) : Ct l g yX5_film cX5_film 5 ((Option.some FieldType.int)) 7 (T_X5_film g) := by
  refine Ct.of (by decide) (fun as M Q h => ?_) (fun p e s m args below meth c as M Q h C => ?_)
  · obtain ⟨sh, n0, rfl, ho, hb, h⟩ := h; exact ⟨by simp, by simp [Value.category]⟩
  · obtain ⟨sh, n0, rfl, ho, hb, h⟩ := h
    have hn := ho.n
    obtain ⟨-, Tn, hwf, htx⟩ := id ho
    obtain ⟨D, hDe⟩ : ∃ D, dv M 40 = D := ⟨_, rfl⟩
    obtain ⟨X, hXe⟩ : ∃ X, xc M = X := ⟨_, rfl⟩
    rw [hDe] at hn hwf
    rw [hDe, hXe] at h
    have hT := hwf.2.2.2.2
    have toG : ∀ i M', i < 4 → Sm (fun a b => YC a b ∨ (a = 32 + 2 * i ∧ (b = 1 ∨ b = 2)) ∨ a = 33 + 2 * i) M M' → Sm YG M M' := fun i M' hi hs => hs.mono fun a b q => by
      rcases q with q | q
      · exact Or.inl q
      · exact Or.inr (by omega)
    have key : ∀ i M', i < 4 → Sm (fun a b => YC a b ∨ (a = 32 + 2 * i ∧ (b = 1 ∨ b = 2)) ∨ a = 33 + 2 * i) M M' → ∀ j, dv M' 52 = pasN X D j → okD M' 52 ∧ EQ X (xc M') (pasN X D j) := by
      intro i M' hi hs j hd
      have w2 := wfD_pasN (X := X) hwf j
      refine ⟨okG_to D52 (toG i M' hi hs) hd w2 htx, ?_⟩
      have := (AG_G (toG i M' hi hs) hT).eq w2
      rwa [hXe] at this
    obtain ⟨I44, hI44⟩ : ∃ I : Nat → PP, I = (fun n lv st M' => ∃ k i nn, sh = nI i ∧ i < 4 ∧ n0 = nI nn ∧ nn ≤ 40 ∧ lv = [(0, .ref 0), (2, .int (nI nn)), (3, .ref (32 + 2 * i)), (4, .int (nI k))] ∧ st = [] ∧ k ≤ nn ∧ n = nn - k ∧ Sm (fun a b => YC a b ∨ (a = 32 + 2 * i ∧ (b = 1 ∨ b = 2)) ∨ a = 33 + 2 * i) M M' ∧ dv M' 52 = pasN X D k ∧ M' (32 + 2 * i) 1 = 2 ∧ M' (32 + 2 * i) 2 = nI nn ∧ (∀ j, j < 40 → M' (33 + 2 * i) j = if j < k then wor X (pasN X D j) else 0)) := ⟨_, rfl⟩
    obtain ⟨E44, hE44⟩ : ∃ E : PP, E = (fun lv st M => ∃ n, I44 n lv st M) := ⟨_, rfl⟩
    have iE44 : ∀ n lv st M, I44 n lv st M → E44 lv st M := fun n lv st M h => by rw [hE44]; exact ⟨n, h⟩
    have L44 : Sj p l e 7 s m args below meth c 5 g (MQ below (cQc g Q) args s 0 0 (gA g)) 44 E44 := by
      rw [hE44]
      refine s_ex (s_loop I44 (fun K44 k44 => WX5_film_44 C (t_X5_isSheet hg) (by decide) (t_X5_isDays hg) (by decide) (t_X2_renew hg) (by decide) (t_X0_become hg) (by decide) (t_X0_worth hg) (by decide) (t_X2_put hg) (by decide) (t_X0_wearOn hg) (by decide) k44) ?_)
      intro n lv st M1 K44 hK44 hI; rw [hI44] at hI; obtain ⟨k, i, nn, ei, hi, en, hnn, rfl, rfl, hk, rfl, hs, hd, h1, h2, hc⟩ := hI
      unfold BX5_film_44
      generalize hB60 : BX5_film_60 g Q (T_X5_isSheet g) (T_X5_isDays g) (T_X2_renew g) (T_X0_become g) (T_X0_worth g) (T_X2_put g) (T_X0_wearOn g) K44 = B60
      simp only [T_X5_isSheet, T_X5_isDays, T_X2_renew, T_X0_become, T_X0_worth, T_X2_put, T_X0_wearOn, i_const, i_lconst, i_iload, i_aload, i_lload, i_istore, i_astore, i_lstore, i_iinc, i_bin, i_div, i_un, i_i2l, i_l2i, i_lbin, i_lcmp, i_if, i_icmp, i_dup, i_dup_x1, i_dup2, i_pop, i_geti, i_getr, i_getd, i_puti, i_putz, i_putd, i_iald, i_bald, i_aald, i_iast, i_bast, i_alen, i_keep, i_ret, i_retz, i_reta, i_retl, i_retv, i_callv, i_callk, i_calls, i_mm, i_copy, i_under, i_undld, i_ldcs, i_sw, q_swc0, q_swc1, q_lg0, q_lg1, q_lent0, q_lent1, lset, lset2, q_lins0, q_lins1, q_ldel0, q_ldel1, q_ldel20, q_ldel21, q_lkeep0, q_lkeep1, q_memb0, q_memb1, cat2, Nat.reduceBEq, decide_true, decide_false, decide_eq_true_eq, cond_true, cond_false, Bool.and_true, Bool.and_false, Bool.true_and, Bool.false_and, f_iadd, f_isub, f_imul, f_ishl, f_ishr, f_iushr, f_iand, f_ior, f_idiv, f_irem, f_ineg, f_i2b, f_i2s, f_ladd, f_lmul, c_eq, c_ne, c_lt, c_ge, c_gt, c_le, cc_eq, cc_ne, cc_lt, cc_ge, cc_gt, cc_le, rfo, aof, csum, Value.category, List.take, List.drop, List.reverse, List.reverseAux, List.map, List.sum_cons, List.sum_nil, List.cons_append, List.nil_append, Option.toList, List.mem_cons, List.not_mem_nil, List.length_cons, List.length_nil, reduceIte, Nat.reduceEqDiff, Nat.reduceAdd, Nat.reduceLeDiff, Nat.reduceLT, a_day, Nat.zero_ne_one, Nat.one_ne_zero, false_and, and_false, true_and, and_true, or_false, false_or, or_true, true_or, not_true_eq_false, not_false_eq_true, Nat.zero_add, Nat.add_zero, Nat.le_refl, Nat.lt_irrefl, Nat.zero_lt_succ, Nat.zero_le, forall_const, List.cons.injEq, Value.int.injEq, Value.ref.injEq, Value.long.injEq, and_assoc, exists_and_left, exists_eq_left']
      try simp only [forall_eq]
      obtain ⟨s1, s2, s3⟩ := sheet_ok hg hi
      obtain ⟨ko, kx⟩ := key i M1 hi hs _ hd
      rw [nI_leI (by omega) (by omega)]
      refine ⟨fun z => ?_, fun z => ⟨c_0 hg, (c_52 hg).1, (c_52 hg).2.1, ko, fun M2 hs2 => ?_⟩⟩
      · have : k = nn := by omega
        subst this
        exact h i k M1 ei hi en hnn hs h1 h2 hc
      · rw [hd, wor_e kx]
        have hs2D : Sm (XD 52) M1 M2 := hs2.mono fun a b q => XP_D q
        have far : ∀ a b, 32 ≤ a → a < 40 → M2 a b = M1 a b := fun a b p q => hs2D a b (by unfold XD isPile; omega)
        subst hB60
        unfold BX5_film_60
        generalize hB63 : BX5_film_63 g Q (T_X5_isSheet g) (T_X5_isDays g) (T_X2_renew g) (T_X0_become g) (T_X0_worth g) (T_X2_put g) (T_X0_wearOn g) K44 = B63
        simp only [T_X5_isSheet, T_X5_isDays, T_X2_renew, T_X0_become, T_X0_worth, T_X2_put, T_X0_wearOn, i_const, i_lconst, i_iload, i_aload, i_lload, i_istore, i_astore, i_lstore, i_iinc, i_bin, i_div, i_un, i_i2l, i_l2i, i_lbin, i_lcmp, i_if, i_icmp, i_dup, i_dup_x1, i_dup2, i_pop, i_geti, i_getr, i_getd, i_puti, i_putz, i_putd, i_iald, i_bald, i_aald, i_iast, i_bast, i_alen, i_keep, i_ret, i_retz, i_reta, i_retl, i_retv, i_callv, i_callk, i_calls, i_mm, i_copy, i_under, i_undld, i_ldcs, i_sw, q_swc0, q_swc1, q_lg0, q_lg1, q_lent0, q_lent1, lset, lset2, q_lins0, q_lins1, q_ldel0, q_ldel1, q_ldel20, q_ldel21, q_lkeep0, q_lkeep1, q_memb0, q_memb1, cat2, Nat.reduceBEq, decide_true, decide_false, decide_eq_true_eq, cond_true, cond_false, Bool.and_true, Bool.and_false, Bool.true_and, Bool.false_and, f_iadd, f_isub, f_imul, f_ishl, f_ishr, f_iushr, f_iand, f_ior, f_idiv, f_irem, f_ineg, f_i2b, f_i2s, f_ladd, f_lmul, c_eq, c_ne, c_lt, c_ge, c_gt, c_le, cc_eq, cc_ne, cc_lt, cc_ge, cc_gt, cc_le, rfo, aof, csum, Value.category, List.take, List.drop, List.reverse, List.reverseAux, List.map, List.sum_cons, List.sum_nil, List.cons_append, List.nil_append, Option.toList, List.mem_cons, List.not_mem_nil, List.length_cons, List.length_nil, reduceIte, Nat.reduceEqDiff, Nat.reduceAdd, Nat.reduceLeDiff, Nat.reduceLT, a_day, Nat.zero_ne_one, Nat.one_ne_zero, false_and, and_false, true_and, and_true, or_false, false_or, or_true, true_or, not_true_eq_false, not_false_eq_true, Nat.zero_add, Nat.add_zero, Nat.le_refl, Nat.lt_irrefl, Nat.zero_lt_succ, Nat.zero_le, forall_const, List.cons.injEq, Value.int.injEq, Value.ref.injEq, Value.long.injEq, and_assoc, exists_and_left, exists_eq_left']
        try simp only [forall_eq]
        refine ⟨s1.1, s1.2.1, i, rfl, k, rfl, hi, by omega, ?_⟩
        rw [far _ _ (by omega) (by omega), h1]
        have hs3 : Sm (fun a b => YC a b ∨ (a = 32 + 2 * i ∧ (b = 1 ∨ b = 2)) ∨ a = 33 + 2 * i) M (mset M2 (33 + 2 * i) k (cnv 2 (wor X (pasN X D k)))) := (hs.tr (hs2D.mono fun a b q => Or.inl (Or.inl q))).set _ (Or.inr (Or.inr rfl))
        have hd3 : dv (mset M2 (33 + 2 * i) k (cnv 2 (wor X (pasN X D k)))) 52 = pasN X D k := by
          have e1 : dv M2 52 = pasN X D k := by rw [dv_C52 hs2 ko.n rfl]; exact hd
          rw [← e1]
          exact dv_sm (Y := fun a b => a = 33 + 2 * i) (Sm.rf.set _ rfl) (fun j => by omega) (fun j hj => by omega) (fun s j hs => by omega) (by rw [e1, ← hd]; exact ko.n)
        obtain ⟨ko3, kx3⟩ := key i _ hi hs3 _ hd3
        subst hB63
        unfold BX5_film_63
        generalize hB70 : BX5_film_70 g Q (T_X5_isSheet g) (T_X5_isDays g) (T_X2_renew g) (T_X0_become g) (T_X0_worth g) (T_X2_put g) (T_X0_wearOn g) K44 = B70
        simp only [T_X5_isSheet, T_X5_isDays, T_X2_renew, T_X0_become, T_X0_worth, T_X2_put, T_X0_wearOn, i_const, i_lconst, i_iload, i_aload, i_lload, i_istore, i_astore, i_lstore, i_iinc, i_bin, i_div, i_un, i_i2l, i_l2i, i_lbin, i_lcmp, i_if, i_icmp, i_dup, i_dup_x1, i_dup2, i_pop, i_geti, i_getr, i_getd, i_puti, i_putz, i_putd, i_iald, i_bald, i_aald, i_iast, i_bast, i_alen, i_keep, i_ret, i_retz, i_reta, i_retl, i_retv, i_callv, i_callk, i_calls, i_mm, i_copy, i_under, i_undld, i_ldcs, i_sw, q_swc0, q_swc1, q_lg0, q_lg1, q_lent0, q_lent1, lset, lset2, q_lins0, q_lins1, q_ldel0, q_ldel1, q_ldel20, q_ldel21, q_lkeep0, q_lkeep1, q_memb0, q_memb1, cat2, Nat.reduceBEq, decide_true, decide_false, decide_eq_true_eq, cond_true, cond_false, Bool.and_true, Bool.and_false, Bool.true_and, Bool.false_and, f_iadd, f_isub, f_imul, f_ishl, f_ishr, f_iushr, f_iand, f_ior, f_idiv, f_irem, f_ineg, f_i2b, f_i2s, f_ladd, f_lmul, c_eq, c_ne, c_lt, c_ge, c_gt, c_le, cc_eq, cc_ne, cc_lt, cc_ge, cc_gt, cc_le, rfo, aof, csum, Value.category, List.take, List.drop, List.reverse, List.reverseAux, List.map, List.sum_cons, List.sum_nil, List.cons_append, List.nil_append, Option.toList, List.mem_cons, List.not_mem_nil, List.length_cons, List.length_nil, reduceIte, Nat.reduceEqDiff, Nat.reduceAdd, Nat.reduceLeDiff, Nat.reduceLT, a_day, Nat.zero_ne_one, Nat.one_ne_zero, false_and, and_false, true_and, and_true, or_false, false_or, or_true, true_or, not_true_eq_false, not_false_eq_true, Nat.zero_add, Nat.add_zero, Nat.le_refl, Nat.lt_irrefl, Nat.zero_lt_succ, Nat.zero_le, forall_const, List.cons.injEq, Value.int.injEq, Value.ref.injEq, Value.long.injEq, and_assoc, exists_and_left, exists_eq_left']
        try simp only [forall_eq]
        refine ⟨c_0 hg, (c_52 hg).1, (c_52 hg).2.1, ko3, fun M4 hs4 hd4 => ?_⟩
        have far4 : ∀ a b, 32 ≤ a → a < 40 → M4 a b = mset M2 (33 + 2 * i) k (cnv 2 (wor X (pasN X D k))) a b := fun a b p q => hs4 a b (by unfold XD isPile; omega)
        subst hB70
        unfold BX5_film_70
        simp only [T_X5_isSheet, T_X5_isDays, T_X2_renew, T_X0_become, T_X0_worth, T_X2_put, T_X0_wearOn, i_const, i_lconst, i_iload, i_aload, i_lload, i_istore, i_astore, i_lstore, i_iinc, i_bin, i_div, i_un, i_i2l, i_l2i, i_lbin, i_lcmp, i_if, i_icmp, i_dup, i_dup_x1, i_dup2, i_pop, i_geti, i_getr, i_getd, i_puti, i_putz, i_putd, i_iald, i_bald, i_aald, i_iast, i_bast, i_alen, i_keep, i_ret, i_retz, i_reta, i_retl, i_retv, i_callv, i_callk, i_calls, i_mm, i_copy, i_under, i_undld, i_ldcs, i_sw, q_swc0, q_swc1, q_lg0, q_lg1, q_lent0, q_lent1, lset, lset2, q_lins0, q_lins1, q_ldel0, q_ldel1, q_ldel20, q_ldel21, q_lkeep0, q_lkeep1, q_memb0, q_memb1, cat2, Nat.reduceBEq, decide_true, decide_false, decide_eq_true_eq, cond_true, cond_false, Bool.and_true, Bool.and_false, Bool.true_and, Bool.false_and, f_iadd, f_isub, f_imul, f_ishl, f_ishr, f_iushr, f_iand, f_ior, f_idiv, f_irem, f_ineg, f_i2b, f_i2s, f_ladd, f_lmul, c_eq, c_ne, c_lt, c_ge, c_gt, c_le, cc_eq, cc_ne, cc_lt, cc_ge, cc_gt, cc_le, rfo, aof, csum, Value.category, List.take, List.drop, List.reverse, List.reverseAux, List.map, List.sum_cons, List.sum_nil, List.cons_append, List.nil_append, Option.toList, List.mem_cons, List.not_mem_nil, List.length_cons, List.length_nil, reduceIte, Nat.reduceEqDiff, Nat.reduceAdd, Nat.reduceLeDiff, Nat.reduceLT, a_day, Nat.zero_ne_one, Nat.one_ne_zero, false_and, and_false, true_and, and_true, or_false, false_or, or_true, true_or, not_true_eq_false, not_false_eq_true, Nat.zero_add, Nat.add_zero, Nat.le_refl, Nat.lt_irrefl, Nat.zero_lt_succ, Nat.zero_le, forall_const, List.cons.injEq, Value.int.injEq, Value.ref.injEq, Value.long.injEq, and_assoc, exists_and_left, exists_eq_left']
        try simp only [forall_eq]
        rw [nI_1]
        refine hK44 (nn - (k + 1)) _ _ _ (by omega) ?_
        rw [hI44]
        refine ⟨k + 1, i, nn, ei, hi, en, hnn, rfl, rfl, by omega, rfl, hs3.tr (hs4.mono fun a b q => Or.inl (Or.inl q)), ?_, ?_, ?_, fun j hj => ?_⟩
        · rw [hd4, hd3, pasD_e kx3]; rfl
        · rw [far4 _ _ (by omega) (by omega), ms_q (by omega), far _ _ (by omega) (by omega)]; exact h1
        · rw [far4 _ _ (by omega) (by omega), ms_q (by omega), far _ _ (by omega) (by omega)]; exact h2
        · rw [far4 _ _ (by omega) (by omega)]
          by_cases e : j = k
          · subst e; rw [ms_s, if_pos (by omega)]; rfl
          · rw [ms_j e, far _ _ (by omega) (by omega), hc j hj]
            have : j < k + 1 ↔ j < k := by omega
            simp only [this]
    refine s_of (fun lv st M0 hs => ?_) (WX5_film_0 C (t_X5_isSheet hg) (by decide) (t_X5_isDays hg) (by decide) (t_X2_renew hg) (by decide) (t_X0_become hg) (by decide) (t_X0_worth hg) (by decide) (t_X2_put hg) (by decide) (t_X0_wearOn hg) (by decide) L44)
    obtain ⟨rfl, rfl, rfl⟩ := hs
    unfold BX5_film_0
    generalize hB4 : BX5_film_4 g Q (T_X5_isSheet g) (T_X5_isDays g) (T_X2_renew g) (T_X0_become g) (T_X0_worth g) (T_X2_put g) (T_X0_wearOn g) E44 = B4
    simp only [T_X5_isSheet, T_X5_isDays, T_X2_renew, T_X0_become, T_X0_worth, T_X2_put, T_X0_wearOn, i_const, i_lconst, i_iload, i_aload, i_lload, i_istore, i_astore, i_lstore, i_iinc, i_bin, i_div, i_un, i_i2l, i_l2i, i_lbin, i_lcmp, i_if, i_icmp, i_dup, i_dup_x1, i_dup2, i_pop, i_geti, i_getr, i_getd, i_puti, i_putz, i_putd, i_iald, i_bald, i_aald, i_iast, i_bast, i_alen, i_keep, i_ret, i_retz, i_reta, i_retl, i_retv, i_callv, i_callk, i_calls, i_mm, i_copy, i_under, i_undld, i_ldcs, i_sw, q_swc0, q_swc1, q_lg0, q_lg1, q_lent0, q_lent1, lset, lset2, q_lins0, q_lins1, q_ldel0, q_ldel1, q_ldel20, q_ldel21, q_lkeep0, q_lkeep1, q_memb0, q_memb1, cat2, Nat.reduceBEq, decide_true, decide_false, decide_eq_true_eq, cond_true, cond_false, Bool.and_true, Bool.and_false, Bool.true_and, Bool.false_and, f_iadd, f_isub, f_imul, f_ishl, f_ishr, f_iushr, f_iand, f_ior, f_idiv, f_irem, f_ineg, f_i2b, f_i2s, f_ladd, f_lmul, c_eq, c_ne, c_lt, c_ge, c_gt, c_le, cc_eq, cc_ne, cc_lt, cc_ge, cc_gt, cc_le, rfo, aof, csum, Value.category, List.take, List.drop, List.reverse, List.reverseAux, List.map, List.sum_cons, List.sum_nil, List.cons_append, List.nil_append, Option.toList, List.mem_cons, List.not_mem_nil, List.length_cons, List.length_nil, reduceIte, Nat.reduceEqDiff, Nat.reduceAdd, Nat.reduceLeDiff, Nat.reduceLT, a_day, Nat.zero_ne_one, Nat.one_ne_zero, false_and, and_false, true_and, and_true, or_false, false_or, or_true, true_or, not_true_eq_false, not_false_eq_true, Nat.zero_add, Nat.add_zero, Nat.le_refl, Nat.lt_irrefl, Nat.zero_lt_succ, Nat.zero_le, forall_const, List.cons.injEq, Value.int.injEq, Value.ref.injEq, Value.long.injEq, and_assoc, exists_and_left, exists_eq_left']
    try simp only [forall_eq]
    subst hB4
    unfold BX5_film_4
    generalize hB11 : BX5_film_11 g Q (T_X5_isSheet g) (T_X5_isDays g) (T_X2_renew g) (T_X0_become g) (T_X0_worth g) (T_X2_put g) (T_X0_wearOn g) E44 = B11
    simp only [T_X5_isSheet, T_X5_isDays, T_X2_renew, T_X0_become, T_X0_worth, T_X2_put, T_X0_wearOn, i_const, i_lconst, i_iload, i_aload, i_lload, i_istore, i_astore, i_lstore, i_iinc, i_bin, i_div, i_un, i_i2l, i_l2i, i_lbin, i_lcmp, i_if, i_icmp, i_dup, i_dup_x1, i_dup2, i_pop, i_geti, i_getr, i_getd, i_puti, i_putz, i_putd, i_iald, i_bald, i_aald, i_iast, i_bast, i_alen, i_keep, i_ret, i_retz, i_reta, i_retl, i_retv, i_callv, i_callk, i_calls, i_mm, i_copy, i_under, i_undld, i_ldcs, i_sw, q_swc0, q_swc1, q_lg0, q_lg1, q_lent0, q_lent1, lset, lset2, q_lins0, q_lins1, q_ldel0, q_ldel1, q_ldel20, q_ldel21, q_lkeep0, q_lkeep1, q_memb0, q_memb1, cat2, Nat.reduceBEq, decide_true, decide_false, decide_eq_true_eq, cond_true, cond_false, Bool.and_true, Bool.and_false, Bool.true_and, Bool.false_and, f_iadd, f_isub, f_imul, f_ishl, f_ishr, f_iushr, f_iand, f_ior, f_idiv, f_irem, f_ineg, f_i2b, f_i2s, f_ladd, f_lmul, c_eq, c_ne, c_lt, c_ge, c_gt, c_le, cc_eq, cc_ne, cc_lt, cc_ge, cc_gt, cc_le, rfo, aof, csum, Value.category, List.take, List.drop, List.reverse, List.reverseAux, List.map, List.sum_cons, List.sum_nil, List.cons_append, List.nil_append, Option.toList, List.mem_cons, List.not_mem_nil, List.length_cons, List.length_nil, reduceIte, Nat.reduceEqDiff, Nat.reduceAdd, Nat.reduceLeDiff, Nat.reduceLT, a_day, Nat.zero_ne_one, Nat.one_ne_zero, false_and, and_false, true_and, and_true, or_false, false_or, or_true, true_or, not_true_eq_false, not_false_eq_true, Nat.zero_add, Nat.add_zero, Nat.le_refl, Nat.lt_irrefl, Nat.zero_lt_succ, Nat.zero_le, forall_const, List.cons.injEq, Value.int.injEq, Value.ref.injEq, Value.long.injEq, and_assoc, exists_and_left, exists_eq_left']
    try simp only [forall_eq]
    refine ⟨fun z1 => hb (fun q => b2n z1 q.1), fun z1 => ?_⟩
    subst hB11
    unfold BX5_film_11
    generalize hB30 : BX5_film_30 g Q (T_X5_isSheet g) (T_X5_isDays g) (T_X2_renew g) (T_X0_become g) (T_X0_worth g) (T_X2_put g) (T_X0_wearOn g) E44 = B30
    simp only [T_X5_isSheet, T_X5_isDays, T_X2_renew, T_X0_become, T_X0_worth, T_X2_put, T_X0_wearOn, i_const, i_lconst, i_iload, i_aload, i_lload, i_istore, i_astore, i_lstore, i_iinc, i_bin, i_div, i_un, i_i2l, i_l2i, i_lbin, i_lcmp, i_if, i_icmp, i_dup, i_dup_x1, i_dup2, i_pop, i_geti, i_getr, i_getd, i_puti, i_putz, i_putd, i_iald, i_bald, i_aald, i_iast, i_bast, i_alen, i_keep, i_ret, i_retz, i_reta, i_retl, i_retv, i_callv, i_callk, i_calls, i_mm, i_copy, i_under, i_undld, i_ldcs, i_sw, q_swc0, q_swc1, q_lg0, q_lg1, q_lent0, q_lent1, lset, lset2, q_lins0, q_lins1, q_ldel0, q_ldel1, q_ldel20, q_ldel21, q_lkeep0, q_lkeep1, q_memb0, q_memb1, cat2, Nat.reduceBEq, decide_true, decide_false, decide_eq_true_eq, cond_true, cond_false, Bool.and_true, Bool.and_false, Bool.true_and, Bool.false_and, f_iadd, f_isub, f_imul, f_ishl, f_ishr, f_iushr, f_iand, f_ior, f_idiv, f_irem, f_ineg, f_i2b, f_i2s, f_ladd, f_lmul, c_eq, c_ne, c_lt, c_ge, c_gt, c_le, cc_eq, cc_ne, cc_lt, cc_ge, cc_gt, cc_le, rfo, aof, csum, Value.category, List.take, List.drop, List.reverse, List.reverseAux, List.map, List.sum_cons, List.sum_nil, List.cons_append, List.nil_append, Option.toList, List.mem_cons, List.not_mem_nil, List.length_cons, List.length_nil, reduceIte, Nat.reduceEqDiff, Nat.reduceAdd, Nat.reduceLeDiff, Nat.reduceLT, a_day, Nat.zero_ne_one, Nat.one_ne_zero, false_and, and_false, true_and, and_true, or_false, false_or, or_true, true_or, not_true_eq_false, not_false_eq_true, Nat.zero_add, Nat.add_zero, Nat.le_refl, Nat.lt_irrefl, Nat.zero_lt_succ, Nat.zero_le, forall_const, List.cons.injEq, Value.int.injEq, Value.ref.injEq, Value.long.injEq, and_assoc, exists_and_left, exists_eq_left']
    try simp only [forall_eq]
    refine ⟨fun z2 => ?_, fun z2 => hb (fun q => b2n (Decidable.not_not.mp z2) q.2)⟩
    have c1 := b2t z1
    obtain ⟨c2a, c2b⟩ := b2t z2
    obtain ⟨i, hi, ei⟩ := sh_4 c1
    obtain ⟨nn, hn31, en⟩ := nI_of (i_not_lt.mpr c2a)
    have hnn : nn ≤ 40 := by
      rw [en] at c2b
      exact (nI_leI (b := 40) hn31 (by decide)).mp c2b
    obtain ⟨s1, s2, s3⟩ := sheet_ok hg hi
    rw [ei, nI_clamp (by omega)]
    have e32 : (2 + (30 + 2 * i) : Nat) = 32 + 2 * i := by omega
    simp only [e32]
    refine ⟨c_0 hg, okR hg (by decide) (by decide) rfl, vp_in_nI (n := i) (N := 4) hi (by decide), s1.1, s1.2.1, i, rfl, hi, fun M1 hs1 h1 h2 hz => ?_⟩
    subst hB30
    unfold BX5_film_30
    simp only [T_X5_isSheet, T_X5_isDays, T_X2_renew, T_X0_become, T_X0_worth, T_X2_put, T_X0_wearOn, i_const, i_lconst, i_iload, i_aload, i_lload, i_istore, i_astore, i_lstore, i_iinc, i_bin, i_div, i_un, i_i2l, i_l2i, i_lbin, i_lcmp, i_if, i_icmp, i_dup, i_dup_x1, i_dup2, i_pop, i_geti, i_getr, i_getd, i_puti, i_putz, i_putd, i_iald, i_bald, i_aald, i_iast, i_bast, i_alen, i_keep, i_ret, i_retz, i_reta, i_retl, i_retv, i_callv, i_callk, i_calls, i_mm, i_copy, i_under, i_undld, i_ldcs, i_sw, q_swc0, q_swc1, q_lg0, q_lg1, q_lent0, q_lent1, lset, lset2, q_lins0, q_lins1, q_ldel0, q_ldel1, q_ldel20, q_ldel21, q_lkeep0, q_lkeep1, q_memb0, q_memb1, cat2, Nat.reduceBEq, decide_true, decide_false, decide_eq_true_eq, cond_true, cond_false, Bool.and_true, Bool.and_false, Bool.true_and, Bool.false_and, f_iadd, f_isub, f_imul, f_ishl, f_ishr, f_iushr, f_iand, f_ior, f_idiv, f_irem, f_ineg, f_i2b, f_i2s, f_ladd, f_lmul, c_eq, c_ne, c_lt, c_ge, c_gt, c_le, cc_eq, cc_ne, cc_lt, cc_ge, cc_gt, cc_le, rfo, aof, csum, Value.category, List.take, List.drop, List.reverse, List.reverseAux, List.map, List.sum_cons, List.sum_nil, List.cons_append, List.nil_append, Option.toList, List.mem_cons, List.not_mem_nil, List.length_cons, List.length_nil, reduceIte, Nat.reduceEqDiff, Nat.reduceAdd, Nat.reduceLeDiff, Nat.reduceLT, a_day, Nat.zero_ne_one, Nat.one_ne_zero, false_and, and_false, true_and, and_true, or_false, false_or, or_true, true_or, not_true_eq_false, not_false_eq_true, Nat.zero_add, Nat.add_zero, Nat.le_refl, Nat.lt_irrefl, Nat.zero_lt_succ, Nat.zero_le, forall_const, List.cons.injEq, Value.int.injEq, Value.ref.injEq, Value.long.injEq, and_assoc, exists_and_left, exists_eq_left']
    try simp only [forall_eq]
    have hsG : Sm YG M0 M1 := hs1.mono fun a b q => Or.inr (by omega)
    have hd1 : dv M1 40 = D := by rw [← hDe]; exact dv_G hsG (by rw [hDe]; exact hn)
    have ho1 : okD M1 40 := okG_to D40 hsG hd1 hwf htx
    refine ⟨c_0 hg, c_0 hg, (c_52 hg).1, (c_52 hg).2.1, D52, ho1, fun M2 hs2 hd2 => ?_⟩
    rw [hd1] at hd2
    refine iE44 (nn - 0) _ _ _ ?_
    rw [hI44]
    refine ⟨0, i, nn, ei, hi, en, hnn, by rw [en]; rfl, rfl, by omega, rfl, (hs1.mono fun a b q => Or.inr q).tr (hs2.mono fun a b q => Or.inl (Or.inl q)), hd2, ?_, ?_, fun j hj => ?_⟩
    · rw [hs2 _ _ (by unfold XD isPile; omega)]; exact h1
    · rw [hs2 _ _ (by unfold XD isPile; omega), h2, en]
    · rw [hs2 _ _ (by unfold XD isPile; omega), if_neg (by omega)]; exact hz j hj
def T_X5_drawn (g : WG) (as : List Value) (M : MM) (Q : Option Value → MM → Prop) : Prop := ∃ seed, as = [.ref 0, .int seed] ∧ okD M 40 ∧ ∀ M', Sm YC M M' → Q (some (.int (wor (xc M) (drwD (dv M 40) seed)))) M'
set_option maxRecDepth 100000 in
set_option maxHeartbeats 1000000 in
theorem t_X5_drawn {l : Launch} {g : WG} (hg : Full g) : Ct l g yX5_drawn cX5_drawn 2 ((Option.some FieldType.int)) 7 (T_X5_drawn g) := by
  refine Ct.of (by decide) (fun as M Q h => ?_) (fun p e s m args below meth c as M Q h C => ?_)
  · obtain ⟨seed, rfl, ho, h⟩ := h; exact ⟨by simp, by simp [Value.category]⟩
  · obtain ⟨seed, rfl, ho, h⟩ := h
    have hn := ho.n
    obtain ⟨-, Tn, hwf, htx⟩ := id ho
    refine s_of (fun lv st M0 hs => ?_) (WX5_drawn_0 C (t_X0_become hg) (by decide) (t_X0_draw hg) (by decide) (t_X0_worth hg) (by decide))
    obtain ⟨rfl, rfl, rfl⟩ := hs
    unfold BX5_drawn_0
    generalize hB11 : BX5_drawn_11 g Q (T_X0_become g) (T_X0_draw g) (T_X0_worth g) = B11
    simp only [T_X0_become, T_X0_draw, T_X0_worth, i_const, i_lconst, i_iload, i_aload, i_lload, i_istore, i_astore, i_lstore, i_iinc, i_bin, i_div, i_un, i_i2l, i_l2i, i_lbin, i_lcmp, i_if, i_icmp, i_dup, i_dup_x1, i_dup2, i_pop, i_geti, i_getr, i_getd, i_puti, i_putz, i_putd, i_iald, i_bald, i_aald, i_iast, i_bast, i_alen, i_keep, i_ret, i_retz, i_reta, i_retl, i_retv, i_callv, i_callk, i_calls, i_mm, i_copy, i_under, i_undld, i_ldcs, i_sw, q_swc0, q_swc1, q_lg0, q_lg1, q_lent0, q_lent1, lset, lset2, q_lins0, q_lins1, q_ldel0, q_ldel1, q_ldel20, q_ldel21, q_lkeep0, q_lkeep1, q_memb0, q_memb1, cat2, Nat.reduceBEq, decide_true, decide_false, decide_eq_true_eq, cond_true, cond_false, Bool.and_true, Bool.and_false, Bool.true_and, Bool.false_and, f_iadd, f_isub, f_imul, f_ishl, f_ishr, f_iushr, f_iand, f_ior, f_idiv, f_irem, f_ineg, f_i2b, f_i2s, f_ladd, f_lmul, c_eq, c_ne, c_lt, c_ge, c_gt, c_le, cc_eq, cc_ne, cc_lt, cc_ge, cc_gt, cc_le, rfo, aof, csum, Value.category, List.take, List.drop, List.reverse, List.reverseAux, List.map, List.sum_cons, List.sum_nil, List.cons_append, List.nil_append, Option.toList, List.mem_cons, List.not_mem_nil, List.length_cons, List.length_nil, reduceIte, Nat.reduceEqDiff, Nat.reduceAdd, Nat.reduceLeDiff, Nat.reduceLT, a_day, Nat.zero_ne_one, Nat.one_ne_zero, false_and, and_false, true_and, and_true, or_false, false_or, or_true, true_or, not_true_eq_false, not_false_eq_true, Nat.zero_add, Nat.add_zero, Nat.le_refl, Nat.lt_irrefl, Nat.zero_lt_succ, Nat.zero_le, forall_const, List.cons.injEq, Value.int.injEq, Value.ref.injEq, Value.long.injEq, and_assoc, exists_and_left, exists_eq_left']
    try simp only [forall_eq]
    have hT := hwf.2.2.2.2
    refine ⟨c_0 hg, c_0 hg, (c_52 hg).1, (c_52 hg).2.1, D52, ho, fun M1 hs1 hd1 => ?_⟩
    subst hB11
    unfold BX5_drawn_11
    generalize hB19 : BX5_drawn_19 g Q (T_X0_become g) (T_X0_draw g) (T_X0_worth g) = B19
    simp only [T_X0_become, T_X0_draw, T_X0_worth, i_const, i_lconst, i_iload, i_aload, i_lload, i_istore, i_astore, i_lstore, i_iinc, i_bin, i_div, i_un, i_i2l, i_l2i, i_lbin, i_lcmp, i_if, i_icmp, i_dup, i_dup_x1, i_dup2, i_pop, i_geti, i_getr, i_getd, i_puti, i_putz, i_putd, i_iald, i_bald, i_aald, i_iast, i_bast, i_alen, i_keep, i_ret, i_retz, i_reta, i_retl, i_retv, i_callv, i_callk, i_calls, i_mm, i_copy, i_under, i_undld, i_ldcs, i_sw, q_swc0, q_swc1, q_lg0, q_lg1, q_lent0, q_lent1, lset, lset2, q_lins0, q_lins1, q_ldel0, q_ldel1, q_ldel20, q_ldel21, q_lkeep0, q_lkeep1, q_memb0, q_memb1, cat2, Nat.reduceBEq, decide_true, decide_false, decide_eq_true_eq, cond_true, cond_false, Bool.and_true, Bool.and_false, Bool.true_and, Bool.false_and, f_iadd, f_isub, f_imul, f_ishl, f_ishr, f_iushr, f_iand, f_ior, f_idiv, f_irem, f_ineg, f_i2b, f_i2s, f_ladd, f_lmul, c_eq, c_ne, c_lt, c_ge, c_gt, c_le, cc_eq, cc_ne, cc_lt, cc_ge, cc_gt, cc_le, rfo, aof, csum, Value.category, List.take, List.drop, List.reverse, List.reverseAux, List.map, List.sum_cons, List.sum_nil, List.cons_append, List.nil_append, Option.toList, List.mem_cons, List.not_mem_nil, List.length_cons, List.length_nil, reduceIte, Nat.reduceEqDiff, Nat.reduceAdd, Nat.reduceLeDiff, Nat.reduceLT, a_day, Nat.zero_ne_one, Nat.one_ne_zero, false_and, and_false, true_and, and_true, or_false, false_or, or_true, true_or, not_true_eq_false, not_false_eq_true, Nat.zero_add, Nat.add_zero, Nat.le_refl, Nat.lt_irrefl, Nat.zero_lt_succ, Nat.zero_le, forall_const, List.cons.injEq, Value.int.injEq, Value.ref.injEq, Value.long.injEq, and_assoc, exists_and_left, exists_eq_left']
    try simp only [forall_eq]
    refine ⟨c_0 hg, (c_52 hg).1, (c_52 hg).2.1, D52, by rw [hd1]; exact hn, fun M2 hs2 hd2 => ?_⟩
    rw [hd1] at hd2
    have hs2C : Sm YC M0 M2 := (Sm_YC hs1).tr (hs2.mono fun a b q => Or.inl (Or.inl (by omega)))
    have w2 := wfD_drw (seed := seed) hwf
    have ko := okC_to D52 hs2C hd2 w2 htx
    have kx := (AG_C hs2C hT).eq w2
    subst hB19
    unfold BX5_drawn_19
    simp only [T_X0_become, T_X0_draw, T_X0_worth, i_const, i_lconst, i_iload, i_aload, i_lload, i_istore, i_astore, i_lstore, i_iinc, i_bin, i_div, i_un, i_i2l, i_l2i, i_lbin, i_lcmp, i_if, i_icmp, i_dup, i_dup_x1, i_dup2, i_pop, i_geti, i_getr, i_getd, i_puti, i_putz, i_putd, i_iald, i_bald, i_aald, i_iast, i_bast, i_alen, i_keep, i_ret, i_retz, i_reta, i_retl, i_retv, i_callv, i_callk, i_calls, i_mm, i_copy, i_under, i_undld, i_ldcs, i_sw, q_swc0, q_swc1, q_lg0, q_lg1, q_lent0, q_lent1, lset, lset2, q_lins0, q_lins1, q_ldel0, q_ldel1, q_ldel20, q_ldel21, q_lkeep0, q_lkeep1, q_memb0, q_memb1, cat2, Nat.reduceBEq, decide_true, decide_false, decide_eq_true_eq, cond_true, cond_false, Bool.and_true, Bool.and_false, Bool.true_and, Bool.false_and, f_iadd, f_isub, f_imul, f_ishl, f_ishr, f_iushr, f_iand, f_ior, f_idiv, f_irem, f_ineg, f_i2b, f_i2s, f_ladd, f_lmul, c_eq, c_ne, c_lt, c_ge, c_gt, c_le, cc_eq, cc_ne, cc_lt, cc_ge, cc_gt, cc_le, rfo, aof, csum, Value.category, List.take, List.drop, List.reverse, List.reverseAux, List.map, List.sum_cons, List.sum_nil, List.cons_append, List.nil_append, Option.toList, List.mem_cons, List.not_mem_nil, List.length_cons, List.length_nil, reduceIte, Nat.reduceEqDiff, Nat.reduceAdd, Nat.reduceLeDiff, Nat.reduceLT, a_day, Nat.zero_ne_one, Nat.one_ne_zero, false_and, and_false, true_and, and_true, or_false, false_or, or_true, true_or, not_true_eq_false, not_false_eq_true, Nat.zero_add, Nat.add_zero, Nat.le_refl, Nat.lt_irrefl, Nat.zero_lt_succ, Nat.zero_le, forall_const, List.cons.injEq, Value.int.injEq, Value.ref.injEq, Value.long.injEq, and_assoc, exists_and_left, exists_eq_left']
    try simp only [forall_eq]
    refine ⟨c_0 hg, (c_52 hg).1, (c_52 hg).2.1, ko, fun M3 hs3 => ?_⟩
    rw [hd2, wor_e kx]
    exact h M3 (hs2C.tr (hs3.mono fun a b q => Or.inl (XP_D q)))
theorem drwD_2 (D : DV) (a b : Int32) : drwD (drwD D a) b = drwD D b := by
  funext f i
  unfold drwD
  by_cases h : f = 0 ∧ i < 16
  · rw [if_pos h, if_pos h]
  · rw [if_neg h, if_neg h, if_neg h]
def rdN : Nat → Nat → Nat → Nat × Nat
  | 0, a, b => (a, b)
  | d + 1, a, b => if d = 0 then (a, b) else if a % (d + 1) = 0 ∧ b % (d + 1) = 0 then rdN d (a / (d + 1)) (b / (d + 1)) else rdN d a b
theorem rd_gcd : ∀ m, m < 21 → ∀ a, a < 21 → 0 < m → a ≤ m → rdN m a m = (a / Nat.gcd a m, m / Nat.gcd a m) := by decide +kernel
def T_X5_chance (g : WG) (as : List Value) (M : MM) (Q : Option Value → MM → Prop) : Prop := ∃ seed m part, as = [.ref 0, .int seed, .int m, .int part] ∧ okD M 40 ∧ ∀ M', Sm YC M M' → Q (some (.long (chA (xc M) (dv M 40) seed m part))) M'
set_option maxRecDepth 100000 in
set_option maxHeartbeats 2000000 in
theorem t_X5_chance {l : Launch} {g : WG} (hg : Full g) : Ct l g yX5_chance cX5_chance 7 ((Option.some FieldType.long)) 7 (T_X5_chance g) := by
  refine Ct.of (by decide) (fun as M Q h => ?_) (fun p e s m args below meth c as M Q h C => ?_)
  · obtain ⟨seed, m0, part, rfl, ho, h⟩ := h; exact ⟨by simp, by simp [Value.category]⟩
  · obtain ⟨seed, m0, part, rfl, ho, h⟩ := h
    have hn := ho.n
    obtain ⟨-, Tn, hwf, htx⟩ := id ho
    obtain ⟨D, hDe⟩ : ∃ D, dv M 40 = D := ⟨_, rfl⟩
    obtain ⟨X, hXe⟩ : ∃ X, xc M = X := ⟨_, rfl⟩
    rw [hDe] at hn hwf
    rw [hDe, hXe] at h
    have hT := hwf.2.2.2.2
    obtain ⟨I42, hI42⟩ : ∃ I : Nat → PP, I = (fun n lv st M' => ∃ k mm, m0 = nI mm ∧ 1 ≤ mm ∧ mm ≤ 20 ∧ (0 ≤ part ∧ part ≤ 1) ∧ lv = [(0, .ref 0), (1, .int seed), (2, .int (nI mm)), (3, .int part), (4, .int (nI (chN X D seed k))), (5, .int (nI mm)), (6, .int (nI k))] ∧ st = [] ∧ k ≤ mm ∧ n = mm - k ∧ Sm YC M M' ∧ dn (dv M' 52) ≤ 7 ∧ ∀ s, drwD (dv M' 52) s = drwD D s) := ⟨_, rfl⟩
    obtain ⟨E42, hE42⟩ : ∃ E : PP, E = (fun lv st M => ∃ n, I42 n lv st M) := ⟨_, rfl⟩
    have iE42 : ∀ n lv st M, I42 n lv st M → E42 lv st M := fun n lv st M h => by rw [hE42]; exact ⟨n, h⟩
    obtain ⟨I88, hI88⟩ : ∃ I : Nat → PP, I = (fun n lv st M' => ∃ a b mm, m0 = nI mm ∧ 1 ≤ mm ∧ mm ≤ 20 ∧ (0 ≤ part ∧ part ≤ 1) ∧ lv = [(3, .int part), (4, .int (nI a)), (5, .int (nI b)), (6, .int (nI n))] ∧ st = [] ∧ a ≤ 20 ∧ b ≤ 20 ∧ n ≤ 20 ∧ rdN n a b = (chN X D seed mm / Nat.gcd (chN X D seed mm) mm, mm / Nat.gcd (chN X D seed mm) mm) ∧ Sm YC M M') := ⟨_, rfl⟩
    obtain ⟨E88, hE88⟩ : ∃ E : PP, E = (fun lv st M => ∃ n, I88 n lv st M) := ⟨_, rfl⟩
    have iE88 : ∀ n lv st M, I88 n lv st M → E88 lv st M := fun n lv st M h => by rw [hE88]; exact ⟨n, h⟩
    have L88 : Sj p l e 7 s m args below meth c 7 g (MQ below (cQc g Q) args s 0 0 (gA g)) 88 E88 := by
      rw [hE88]
      refine s_ex (s_loop I88 (fun K88 k88 => WX5_chance_88 C (t_X5_isAsked hg) (by decide) (t_X0_become hg) (by decide) (t_X0_draw hg) (by decide) (t_X0_worth hg) (by decide) (t_X0_allJoys hg) (by decide) s_F k88) ?_)
      intro n lv st M1 K88 hK88 hI; rw [hI88] at hI; obtain ⟨a, b, mm, hme, hm1, hm2, hp01, rfl, rfl, ha, hb, hn20, hrd, hs⟩ := hI
      unfold BX5_chance_88
      generalize hB130 : BX5_chance_130 g Q (T_X5_isAsked g) (T_X0_become g) (T_X0_draw g) (T_X0_worth g) (T_X0_allJoys g) (fun _ _ _ => False) K88 = B130
      simp only [T_X5_isAsked, T_X0_become, T_X0_draw, T_X0_worth, T_X0_allJoys, i_const, i_lconst, i_iload, i_aload, i_lload, i_istore, i_astore, i_lstore, i_iinc, i_bin, i_div, i_un, i_i2l, i_l2i, i_lbin, i_lcmp, i_if, i_icmp, i_dup, i_dup_x1, i_dup2, i_pop, i_geti, i_getr, i_getd, i_puti, i_putz, i_putd, i_iald, i_bald, i_aald, i_iast, i_bast, i_alen, i_keep, i_ret, i_retz, i_reta, i_retl, i_retv, i_callv, i_callk, i_calls, i_mm, i_copy, i_under, i_undld, i_ldcs, i_sw, q_swc0, q_swc1, q_lg0, q_lg1, q_lent0, q_lent1, lset, lset2, q_lins0, q_lins1, q_ldel0, q_ldel1, q_ldel20, q_ldel21, q_lkeep0, q_lkeep1, q_memb0, q_memb1, cat2, Nat.reduceBEq, decide_true, decide_false, decide_eq_true_eq, cond_true, cond_false, Bool.and_true, Bool.and_false, Bool.true_and, Bool.false_and, f_iadd, f_isub, f_imul, f_ishl, f_ishr, f_iushr, f_iand, f_ior, f_idiv, f_irem, f_ineg, f_i2b, f_i2s, f_ladd, f_lmul, c_eq, c_ne, c_lt, c_ge, c_gt, c_le, cc_eq, cc_ne, cc_lt, cc_ge, cc_gt, cc_le, rfo, aof, csum, Value.category, List.take, List.drop, List.reverse, List.reverseAux, List.map, List.sum_cons, List.sum_nil, List.cons_append, List.nil_append, Option.toList, List.mem_cons, List.not_mem_nil, List.length_cons, List.length_nil, reduceIte, Nat.reduceEqDiff, Nat.reduceAdd, Nat.reduceLeDiff, Nat.reduceLT, a_day, Nat.zero_ne_one, Nat.one_ne_zero, false_and, and_false, true_and, and_true, or_false, false_or, or_true, true_or, not_true_eq_false, not_false_eq_true, Nat.zero_add, Nat.add_zero, Nat.le_refl, Nat.lt_irrefl, Nat.zero_lt_succ, Nat.zero_le, forall_const, List.cons.injEq, Value.int.injEq, Value.ref.injEq, Value.long.injEq, and_assoc, exists_and_left, exists_eq_left']
      try simp only [forall_eq]
      rw [show (1 : Int32) = nI 1 from rfl, nI_leI (b := 1) (by omega) (by decide)]
      refine ⟨fun z => ?_, fun z => ?_⟩
      · have hfin := h M1 hs
        have hab : (a, b) = (chN X D seed mm / Nat.gcd (chN X D seed mm) mm, mm / Nat.gcd (chN X D seed mm) mm) := by
          rw [← hrd]
          have : n = 0 ∨ n = 1 := by omega
          rcases this with e | e <;> subst e <;> rfl
        rw [Prod.mk.injEq] at hab
        rw [chA, if_pos ⟨by rw [hme]; exact ⟨nI_le (a := 1) hm1 (by omega), nI_le (b := 20) hm2 (by decide)⟩, hp01⟩, hme, nI_clamp (by omega), ← hab.1, ← hab.2] at hfin
        subst hB130
        unfold BX5_chance_130
        simp only [T_X5_isAsked, T_X0_become, T_X0_draw, T_X0_worth, T_X0_allJoys, i_const, i_lconst, i_iload, i_aload, i_lload, i_istore, i_astore, i_lstore, i_iinc, i_bin, i_div, i_un, i_i2l, i_l2i, i_lbin, i_lcmp, i_if, i_icmp, i_dup, i_dup_x1, i_dup2, i_pop, i_geti, i_getr, i_getd, i_puti, i_putz, i_putd, i_iald, i_bald, i_aald, i_iast, i_bast, i_alen, i_keep, i_ret, i_retz, i_reta, i_retl, i_retv, i_callv, i_callk, i_calls, i_mm, i_copy, i_under, i_undld, i_ldcs, i_sw, q_swc0, q_swc1, q_lg0, q_lg1, q_lent0, q_lent1, lset, lset2, q_lins0, q_lins1, q_ldel0, q_ldel1, q_ldel20, q_ldel21, q_lkeep0, q_lkeep1, q_memb0, q_memb1, cat2, Nat.reduceBEq, decide_true, decide_false, decide_eq_true_eq, cond_true, cond_false, Bool.and_true, Bool.and_false, Bool.true_and, Bool.false_and, f_iadd, f_isub, f_imul, f_ishl, f_ishr, f_iushr, f_iand, f_ior, f_idiv, f_irem, f_ineg, f_i2b, f_i2s, f_ladd, f_lmul, c_eq, c_ne, c_lt, c_ge, c_gt, c_le, cc_eq, cc_ne, cc_lt, cc_ge, cc_gt, cc_le, rfo, aof, csum, Value.category, List.take, List.drop, List.reverse, List.reverseAux, List.map, List.sum_cons, List.sum_nil, List.cons_append, List.nil_append, Option.toList, List.mem_cons, List.not_mem_nil, List.length_cons, List.length_nil, reduceIte, Nat.reduceEqDiff, Nat.reduceAdd, Nat.reduceLeDiff, Nat.reduceLT, a_day, Nat.zero_ne_one, Nat.one_ne_zero, false_and, and_false, true_and, and_true, or_false, false_or, or_true, true_or, not_true_eq_false, not_false_eq_true, Nat.zero_add, Nat.add_zero, Nat.le_refl, Nat.lt_irrefl, Nat.zero_lt_succ, Nat.zero_le, forall_const, List.cons.injEq, Value.int.injEq, Value.ref.injEq, Value.long.injEq, and_assoc, exists_and_left, exists_eq_left']
        try simp only [forall_eq]
        refine ⟨fun y => ?_, fun y => ?_⟩
        · rwa [if_neg y] at hfin
        · rwa [if_pos (Decidable.not_not.mp y)] at hfin
      · obtain ⟨d, rfl⟩ : ∃ d, n = d + 1 := ⟨n - 1, by omega⟩
        have hne : ¬ nI (d + 1) = 0 := nI_ne0 (by omega) (by omega)
        have est : rdN (d + 1) a b = if a % (d + 1) = 0 ∧ b % (d + 1) = 0 then rdN d (a / (d + 1)) (b / (d + 1)) else rdN d a b := by
          show (if d = 0 then (a, b) else _) = _
          rw [if_neg (by omega)]
        rw [est] at hrd
        have e0 : ∀ x, x ≤ 20 → (nI x - nI x / nI (d + 1) * nI (d + 1) = 0 ↔ x % (d + 1) = 0) := fun x hx => by
          rw [pk_rem (by omega) (by omega) (by omega)]
          have := Nat.mod_lt x (show 0 < d + 1 by omega)
          exact nI_eq (b := 0) (by omega) (by decide)
        have fin : ∀ x y, x ≤ 20 → y ≤ 20 → rdN d x y = (chN X D seed mm / Nat.gcd (chN X D seed mm) mm, mm / Nat.gcd (chN X D seed mm) mm) → K88 [(3, .int part), (4, .int (nI x)), (5, .int (nI y)), (6, .int (nI d))] [] M1 := by
          intro x y hx hy hr
          refine hK88 d _ _ _ (by omega) ?_
          rw [hI88]
          exact ⟨x, y, mm, hme, hm1, hm2, hp01, rfl, rfl, hx, hy, by omega, hr, hs⟩
        rw [e0 a ha, e0 b hb, show (nI (d + 1) + -nI 1 : Int32) = nI d from pk_m1 d, pk_div (by omega) (by omega) (by omega), pk_div (by omega) (by omega) (by omega)]
        refine ⟨hne, fun y => fin a b ha hb ?_, fun y => ⟨hne, fun u => fin a b ha hb ?_, fun u => ⟨hne, hne, fin _ _ ?_ ?_ ?_⟩⟩⟩
        · rwa [if_neg (fun q => y q.1)] at hrd
        · rwa [if_neg (fun q => u q.2)] at hrd
        · exact Nat.le_trans (Nat.div_le_self _ _) ha
        · exact Nat.le_trans (Nat.div_le_self _ _) hb
        · rwa [if_pos ⟨Decidable.not_not.mp y, Decidable.not_not.mp u⟩] at hrd
      
    have L42 : Sj p l e 7 s m args below meth c 7 g (MQ below (cQc g Q) args s 0 0 (gA g)) 42 E42 := by
      rw [hE42]
      refine s_ex (s_loop I42 (fun K42 k42 => WX5_chance_42 C (t_X5_isAsked hg) (by decide) (t_X0_become hg) (by decide) (t_X0_draw hg) (by decide) (t_X0_worth hg) (by decide) (t_X0_allJoys hg) (by decide) k42 L88) ?_)
      intro n lv st M1 K42 hK42 hI; rw [hI42] at hI; obtain ⟨k, mm, hme, hm1, hm2, hp01, rfl, rfl, hk, rfl, hs, hdn, hdr⟩ := hI
      unfold BX5_chance_42
      generalize hB59 : BX5_chance_59 g Q (T_X5_isAsked g) (T_X0_become g) (T_X0_draw g) (T_X0_worth g) (T_X0_allJoys g) K42 E88 = B59
      simp only [T_X5_isAsked, T_X0_become, T_X0_draw, T_X0_worth, T_X0_allJoys, i_const, i_lconst, i_iload, i_aload, i_lload, i_istore, i_astore, i_lstore, i_iinc, i_bin, i_div, i_un, i_i2l, i_l2i, i_lbin, i_lcmp, i_if, i_icmp, i_dup, i_dup_x1, i_dup2, i_pop, i_geti, i_getr, i_getd, i_puti, i_putz, i_putd, i_iald, i_bald, i_aald, i_iast, i_bast, i_alen, i_keep, i_ret, i_retz, i_reta, i_retl, i_retv, i_callv, i_callk, i_calls, i_mm, i_copy, i_under, i_undld, i_ldcs, i_sw, q_swc0, q_swc1, q_lg0, q_lg1, q_lent0, q_lent1, lset, lset2, q_lins0, q_lins1, q_ldel0, q_ldel1, q_ldel20, q_ldel21, q_lkeep0, q_lkeep1, q_memb0, q_memb1, cat2, Nat.reduceBEq, decide_true, decide_false, decide_eq_true_eq, cond_true, cond_false, Bool.and_true, Bool.and_false, Bool.true_and, Bool.false_and, f_iadd, f_isub, f_imul, f_ishl, f_ishr, f_iushr, f_iand, f_ior, f_idiv, f_irem, f_ineg, f_i2b, f_i2s, f_ladd, f_lmul, c_eq, c_ne, c_lt, c_ge, c_gt, c_le, cc_eq, cc_ne, cc_lt, cc_ge, cc_gt, cc_le, rfo, aof, csum, Value.category, List.take, List.drop, List.reverse, List.reverseAux, List.map, List.sum_cons, List.sum_nil, List.cons_append, List.nil_append, Option.toList, List.mem_cons, List.not_mem_nil, List.length_cons, List.length_nil, reduceIte, Nat.reduceEqDiff, Nat.reduceAdd, Nat.reduceLeDiff, Nat.reduceLT, a_day, Nat.zero_ne_one, Nat.one_ne_zero, false_and, and_false, true_and, and_true, or_false, false_or, or_true, true_or, not_true_eq_false, not_false_eq_true, Nat.zero_add, Nat.add_zero, Nat.le_refl, Nat.lt_irrefl, Nat.zero_lt_succ, Nat.zero_le, forall_const, List.cons.injEq, Value.int.injEq, Value.ref.injEq, Value.long.injEq, and_assoc, exists_and_left, exists_eq_left']
      try simp only [forall_eq]
      have hcl := chN_le X D seed k
      rw [nI_leI (by omega) (by omega)]
      refine ⟨fun z => ?_, fun z => ⟨c_0 hg, (c_52 hg).1, (c_52 hg).2.1, D52, hdn, fun M2 hs2 hd2 => ?_⟩⟩
      · have : k = mm := by omega
        subst this
        refine iE88 k _ _ _ ?_
        rw [hI88]
        exact ⟨chN X D seed k, k, k, hme, hm1, hm2, hp01, rfl, rfl, by omega, hm2, hm2, rd_gcd k (by omega) _ (by omega) (by omega) hcl, hs⟩
      · rw [hdr] at hd2
        have hs2C : Sm YC M M2 := hs.tr (hs2.mono fun a b q => Or.inl (Or.inl (by omega)))
        have w2 := wfD_drw (seed := seed + nI k) hwf
        have ko := okC_to D52 hs2C hd2 w2 htx
        have kx : EQ X (xc M2) (drwD D (seed + nI k)) := by
          have := (AG_C hs2C hT).eq w2
          rwa [hXe] at this
        subst hB59
        unfold BX5_chance_59
        generalize hB66 : BX5_chance_66 g Q (T_X5_isAsked g) (T_X0_become g) (T_X0_draw g) (T_X0_worth g) (T_X0_allJoys g) K42 E88 = B66
        simp only [T_X5_isAsked, T_X0_become, T_X0_draw, T_X0_worth, T_X0_allJoys, i_const, i_lconst, i_iload, i_aload, i_lload, i_istore, i_astore, i_lstore, i_iinc, i_bin, i_div, i_un, i_i2l, i_l2i, i_lbin, i_lcmp, i_if, i_icmp, i_dup, i_dup_x1, i_dup2, i_pop, i_geti, i_getr, i_getd, i_puti, i_putz, i_putd, i_iald, i_bald, i_aald, i_iast, i_bast, i_alen, i_keep, i_ret, i_retz, i_reta, i_retl, i_retv, i_callv, i_callk, i_calls, i_mm, i_copy, i_under, i_undld, i_ldcs, i_sw, q_swc0, q_swc1, q_lg0, q_lg1, q_lent0, q_lent1, lset, lset2, q_lins0, q_lins1, q_ldel0, q_ldel1, q_ldel20, q_ldel21, q_lkeep0, q_lkeep1, q_memb0, q_memb1, cat2, Nat.reduceBEq, decide_true, decide_false, decide_eq_true_eq, cond_true, cond_false, Bool.and_true, Bool.and_false, Bool.true_and, Bool.false_and, f_iadd, f_isub, f_imul, f_ishl, f_ishr, f_iushr, f_iand, f_ior, f_idiv, f_irem, f_ineg, f_i2b, f_i2s, f_ladd, f_lmul, c_eq, c_ne, c_lt, c_ge, c_gt, c_le, cc_eq, cc_ne, cc_lt, cc_ge, cc_gt, cc_le, rfo, aof, csum, Value.category, List.take, List.drop, List.reverse, List.reverseAux, List.map, List.sum_cons, List.sum_nil, List.cons_append, List.nil_append, Option.toList, List.mem_cons, List.not_mem_nil, List.length_cons, List.length_nil, reduceIte, Nat.reduceEqDiff, Nat.reduceAdd, Nat.reduceLeDiff, Nat.reduceLT, a_day, Nat.zero_ne_one, Nat.one_ne_zero, false_and, and_false, true_and, and_true, or_false, false_or, or_true, true_or, not_true_eq_false, not_false_eq_true, Nat.zero_add, Nat.add_zero, Nat.le_refl, Nat.lt_irrefl, Nat.zero_lt_succ, Nat.zero_le, forall_const, List.cons.injEq, Value.int.injEq, Value.ref.injEq, Value.long.injEq, and_assoc, exists_and_left, exists_eq_left']
        try simp only [forall_eq]
        refine ⟨c_0 hg, (c_52 hg).1, (c_52 hg).2.1, ko, fun M3 hs3 => ?_⟩
        rw [hd2, wor_e kx]
        have hd3 : dv M3 52 = drwD D (seed + nI k) := by rw [dv_C52 hs3 ko.n rfl]; exact hd2
        subst hB66
        unfold BX5_chance_66
        generalize hB73 : BX5_chance_73 g Q (T_X5_isAsked g) (T_X0_become g) (T_X0_draw g) (T_X0_worth g) (T_X0_allJoys g) K42 E88 = B73
        simp only [T_X5_isAsked, T_X0_become, T_X0_draw, T_X0_worth, T_X0_allJoys, i_const, i_lconst, i_iload, i_aload, i_lload, i_istore, i_astore, i_lstore, i_iinc, i_bin, i_div, i_un, i_i2l, i_l2i, i_lbin, i_lcmp, i_if, i_icmp, i_dup, i_dup_x1, i_dup2, i_pop, i_geti, i_getr, i_getd, i_puti, i_putz, i_putd, i_iald, i_bald, i_aald, i_iast, i_bast, i_alen, i_keep, i_ret, i_retz, i_reta, i_retl, i_retv, i_callv, i_callk, i_calls, i_mm, i_copy, i_under, i_undld, i_ldcs, i_sw, q_swc0, q_swc1, q_lg0, q_lg1, q_lent0, q_lent1, lset, lset2, q_lins0, q_lins1, q_ldel0, q_ldel1, q_ldel20, q_ldel21, q_lkeep0, q_lkeep1, q_memb0, q_memb1, cat2, Nat.reduceBEq, decide_true, decide_false, decide_eq_true_eq, cond_true, cond_false, Bool.and_true, Bool.and_false, Bool.true_and, Bool.false_and, f_iadd, f_isub, f_imul, f_ishl, f_ishr, f_iushr, f_iand, f_ior, f_idiv, f_irem, f_ineg, f_i2b, f_i2s, f_ladd, f_lmul, c_eq, c_ne, c_lt, c_ge, c_gt, c_le, cc_eq, cc_ne, cc_lt, cc_ge, cc_gt, cc_le, rfo, aof, csum, Value.category, List.take, List.drop, List.reverse, List.reverseAux, List.map, List.sum_cons, List.sum_nil, List.cons_append, List.nil_append, Option.toList, List.mem_cons, List.not_mem_nil, List.length_cons, List.length_nil, reduceIte, Nat.reduceEqDiff, Nat.reduceAdd, Nat.reduceLeDiff, Nat.reduceLT, a_day, Nat.zero_ne_one, Nat.one_ne_zero, false_and, and_false, true_and, and_true, or_false, false_or, or_true, true_or, not_true_eq_false, not_false_eq_true, Nat.zero_add, Nat.add_zero, Nat.le_refl, Nat.lt_irrefl, Nat.zero_lt_succ, Nat.zero_le, forall_const, List.cons.injEq, Value.int.injEq, Value.ref.injEq, Value.long.injEq, and_assoc, exists_and_left, exists_eq_left']
        try simp only [forall_eq]
        refine ⟨c_0 hg, (c_52 hg).1, (c_52 hg).2.1, D52, ?_⟩
        have hsum : sumI (fun h => dv M3 52 0 h) 16 = lotS (seed + nI k) := by
          unfold lotS
          exact sumI_congr (fun j hj => by rw [hd3]; exact drwD_0 hj)
        rw [hsum]
        subst hB73
        unfold BX5_chance_73
        simp only [T_X5_isAsked, T_X0_become, T_X0_draw, T_X0_worth, T_X0_allJoys, i_const, i_lconst, i_iload, i_aload, i_lload, i_istore, i_astore, i_lstore, i_iinc, i_bin, i_div, i_un, i_i2l, i_l2i, i_lbin, i_lcmp, i_if, i_icmp, i_dup, i_dup_x1, i_dup2, i_pop, i_geti, i_getr, i_getd, i_puti, i_putz, i_putd, i_iald, i_bald, i_aald, i_iast, i_bast, i_alen, i_keep, i_ret, i_retz, i_reta, i_retl, i_retv, i_callv, i_callk, i_calls, i_mm, i_copy, i_under, i_undld, i_ldcs, i_sw, q_swc0, q_swc1, q_lg0, q_lg1, q_lent0, q_lent1, lset, lset2, q_lins0, q_lins1, q_ldel0, q_ldel1, q_ldel20, q_ldel21, q_lkeep0, q_lkeep1, q_memb0, q_memb1, cat2, Nat.reduceBEq, decide_true, decide_false, decide_eq_true_eq, cond_true, cond_false, Bool.and_true, Bool.and_false, Bool.true_and, Bool.false_and, f_iadd, f_isub, f_imul, f_ishl, f_ishr, f_iushr, f_iand, f_ior, f_idiv, f_irem, f_ineg, f_i2b, f_i2s, f_ladd, f_lmul, c_eq, c_ne, c_lt, c_ge, c_gt, c_le, cc_eq, cc_ne, cc_lt, cc_ge, cc_gt, cc_le, rfo, aof, csum, Value.category, List.take, List.drop, List.reverse, List.reverseAux, List.map, List.sum_cons, List.sum_nil, List.cons_append, List.nil_append, Option.toList, List.mem_cons, List.not_mem_nil, List.length_cons, List.length_nil, reduceIte, Nat.reduceEqDiff, Nat.reduceAdd, Nat.reduceLeDiff, Nat.reduceLT, a_day, Nat.zero_ne_one, Nat.one_ne_zero, false_and, and_false, true_and, and_true, or_false, false_or, or_true, true_or, not_true_eq_false, not_false_eq_true, Nat.zero_add, Nat.add_zero, Nat.le_refl, Nat.lt_irrefl, Nat.zero_lt_succ, Nat.zero_le, forall_const, List.cons.injEq, Value.int.injEq, Value.ref.injEq, Value.long.injEq, and_assoc, exists_and_left, exists_eq_left']
        try simp only [forall_eq]
        rw [nI_1, nI_1]
        have fin : ∀ x, x = nI (chN X D seed (k + 1)) → K42 [(0, .ref 0), (1, .int seed), (2, .int (nI mm)), (3, .int part), (4, .int x), (5, .int (nI mm)), (6, .int (nI (k + 1)))] [] M3 := by
          intro x hx
          subst hx
          refine hK42 (mm - (k + 1)) _ _ _ (by omega) ?_
          rw [hI42]
          exact ⟨k + 1, mm, hme, hm1, hm2, hp01, rfl, rfl, by omega, rfl, hs2C.tr (hs3.mono fun a b q => Or.inl (XP_D q)), by rw [hd3]; exact w2.2.1, fun s => by rw [hd3, drwD_2]⟩
        refine ⟨fun y => fin _ ?_, fun y => fin _ ?_⟩
        · simp only [chN]; rw [if_neg (i_not_lt.mpr y)]; rfl
        · simp only [chN]; rw [if_pos (i_not_le.mp y)]
    refine s_of (fun lv st M0 hs => ?_) (WX5_chance_0 C (t_X5_isAsked hg) (by decide) (t_X0_become hg) (by decide) (t_X0_draw hg) (by decide) (t_X0_worth hg) (by decide) (t_X0_allJoys hg) (by decide) L42 L88)
    obtain ⟨rfl, rfl, rfl⟩ := hs
    unfold BX5_chance_0
    generalize hB15 : BX5_chance_15 g Q (T_X5_isAsked g) (T_X0_become g) (T_X0_draw g) (T_X0_worth g) (T_X0_allJoys g) E42 E88 = B15
    simp only [T_X5_isAsked, T_X0_become, T_X0_draw, T_X0_worth, T_X0_allJoys, i_const, i_lconst, i_iload, i_aload, i_lload, i_istore, i_astore, i_lstore, i_iinc, i_bin, i_div, i_un, i_i2l, i_l2i, i_lbin, i_lcmp, i_if, i_icmp, i_dup, i_dup_x1, i_dup2, i_pop, i_geti, i_getr, i_getd, i_puti, i_putz, i_putd, i_iald, i_bald, i_aald, i_iast, i_bast, i_alen, i_keep, i_ret, i_retz, i_reta, i_retl, i_retv, i_callv, i_callk, i_calls, i_mm, i_copy, i_under, i_undld, i_ldcs, i_sw, q_swc0, q_swc1, q_lg0, q_lg1, q_lent0, q_lent1, lset, lset2, q_lins0, q_lins1, q_ldel0, q_ldel1, q_ldel20, q_ldel21, q_lkeep0, q_lkeep1, q_memb0, q_memb1, cat2, Nat.reduceBEq, decide_true, decide_false, decide_eq_true_eq, cond_true, cond_false, Bool.and_true, Bool.and_false, Bool.true_and, Bool.false_and, f_iadd, f_isub, f_imul, f_ishl, f_ishr, f_iushr, f_iand, f_ior, f_idiv, f_irem, f_ineg, f_i2b, f_i2s, f_ladd, f_lmul, c_eq, c_ne, c_lt, c_ge, c_gt, c_le, cc_eq, cc_ne, cc_lt, cc_ge, cc_gt, cc_le, rfo, aof, csum, Value.category, List.take, List.drop, List.reverse, List.reverseAux, List.map, List.sum_cons, List.sum_nil, List.cons_append, List.nil_append, Option.toList, List.mem_cons, List.not_mem_nil, List.length_cons, List.length_nil, reduceIte, Nat.reduceEqDiff, Nat.reduceAdd, Nat.reduceLeDiff, Nat.reduceLT, a_day, Nat.zero_ne_one, Nat.one_ne_zero, false_and, and_false, true_and, and_true, or_false, false_or, or_true, true_or, not_true_eq_false, not_false_eq_true, Nat.zero_add, Nat.add_zero, Nat.le_refl, Nat.lt_irrefl, Nat.zero_lt_succ, Nat.zero_le, forall_const, List.cons.injEq, Value.int.injEq, Value.ref.injEq, Value.long.injEq, and_assoc, exists_and_left, exists_eq_left']
    try simp only [forall_eq]
    have hb : ¬ ((1 ≤ m0 ∧ m0 ≤ 20) ∧ (0 ≤ part ∧ part ≤ 1)) → Q (some (.long (-4611686018427387904))) M0 := fun c => by
      have := h M0 Sm.rf
      rwa [chA, if_neg c] at this
    refine ⟨fun y => hb (fun q => i_not_lt.mpr q.1.1 y), fun y => ⟨fun u => hb (fun q => i_not_lt.mpr q.1.2 u), fun u => ?_⟩⟩
    subst hB15
    unfold BX5_chance_15
    simp only [T_X5_isAsked, T_X0_become, T_X0_draw, T_X0_worth, T_X0_allJoys, i_const, i_lconst, i_iload, i_aload, i_lload, i_istore, i_astore, i_lstore, i_iinc, i_bin, i_div, i_un, i_i2l, i_l2i, i_lbin, i_lcmp, i_if, i_icmp, i_dup, i_dup_x1, i_dup2, i_pop, i_geti, i_getr, i_getd, i_puti, i_putz, i_putd, i_iald, i_bald, i_aald, i_iast, i_bast, i_alen, i_keep, i_ret, i_retz, i_reta, i_retl, i_retv, i_callv, i_callk, i_calls, i_mm, i_copy, i_under, i_undld, i_ldcs, i_sw, q_swc0, q_swc1, q_lg0, q_lg1, q_lent0, q_lent1, lset, lset2, q_lins0, q_lins1, q_ldel0, q_ldel1, q_ldel20, q_ldel21, q_lkeep0, q_lkeep1, q_memb0, q_memb1, cat2, Nat.reduceBEq, decide_true, decide_false, decide_eq_true_eq, cond_true, cond_false, Bool.and_true, Bool.and_false, Bool.true_and, Bool.false_and, f_iadd, f_isub, f_imul, f_ishl, f_ishr, f_iushr, f_iand, f_ior, f_idiv, f_irem, f_ineg, f_i2b, f_i2s, f_ladd, f_lmul, c_eq, c_ne, c_lt, c_ge, c_gt, c_le, cc_eq, cc_ne, cc_lt, cc_ge, cc_gt, cc_le, rfo, aof, csum, Value.category, List.take, List.drop, List.reverse, List.reverseAux, List.map, List.sum_cons, List.sum_nil, List.cons_append, List.nil_append, Option.toList, List.mem_cons, List.not_mem_nil, List.length_cons, List.length_nil, reduceIte, Nat.reduceEqDiff, Nat.reduceAdd, Nat.reduceLeDiff, Nat.reduceLT, a_day, Nat.zero_ne_one, Nat.one_ne_zero, false_and, and_false, true_and, and_true, or_false, false_or, or_true, true_or, not_true_eq_false, not_false_eq_true, Nat.zero_add, Nat.add_zero, Nat.le_refl, Nat.lt_irrefl, Nat.zero_lt_succ, Nat.zero_le, forall_const, List.cons.injEq, Value.int.injEq, Value.ref.injEq, Value.long.injEq, and_assoc, exists_and_left, exists_eq_left']
    try simp only [forall_eq]
    refine ⟨fun z => ⟨c_0 hg, c_0 hg, (c_52 hg).1, (c_52 hg).2.1, D52, ho, fun M1 hs1 hd1 => ?_⟩, fun z => hb (fun q => b2n (Decidable.not_not.mp z) q.2)⟩
    have c1 : 1 ≤ m0 ∧ m0 ≤ 20 := ⟨i_not_lt.mp y, i_not_lt.mp u⟩
    obtain ⟨mm, hm31, hme⟩ := nI_of (x := m0) (by
      rw [i_lt, t_0]
      have := c1.1
      rw [i_le, t_1] at this
      omega)
    rw [hme] at c1
    have hm1 := (nI_leI (a := 1) (by decide) hm31).mp c1.1
    have hm2 := (nI_leI (b := 20) hm31 (by decide)).mp c1.2
    refine iE42 (mm - 0) _ _ _ ?_
    rw [hI42]
    rw [hDe] at hd1
    exact ⟨0, mm, hme, hm1, hm2, b2t z, by rw [hme]; rfl, rfl, by omega, rfl, Sm_YC hs1, by rw [hd1]; exact hn, fun s => by rw [hd1]⟩
