/-! ===== the model reads a text ===== -/
/-- what comes of the parts left, from token i: none with the fault at k, or their codes -/
def OUT (S V : SV) (k : Nat) : Nat → Nat → Option (List (List Int32)) → Prop
  | 0, i, none => k = i ∧ ¬ S i = 0
  | 0, i, some l => l = [] ∧ S i = 0
  | l + 1, i, r => (PF S V (2 - l) i k ∧ r = none) ∨ ∃ j cs r', PG S V (2 - l) i j cs ∧ OUT S V k l j r' ∧ r = r'.map (fun t => cs :: t)
theorem OUT_f {S V : SV} {k : Nat} (h : FlS S V k) : OUT S V k 3 0 none := by
  rcases h with ⟨p, i, cs, hp, hG, hF⟩ | ⟨cs, hG, h0⟩
  · have : p = 0 ∨ p = 1 ∨ p = 2 := by omega
    rcases this with rfl | rfl | rfl
    · have hi : i = 0 := hG
      subst hi
      exact Or.inl ⟨hF, rfl⟩
    · obtain ⟨i0, hi, g0⟩ := hG
      have hi : i0 = 0 := hi
      subst hi
      exact Or.inr ⟨i, cs 0, none, g0, Or.inl ⟨hF, rfl⟩, rfl⟩
    · obtain ⟨i1, ⟨i0, hi, g0⟩, g1⟩ := hG
      have hi : i0 = 0 := hi
      subst hi
      exact Or.inr ⟨i1, cs 0, none, g0, Or.inr ⟨i, cs 1, none, g1, Or.inl ⟨hF, rfl⟩, rfl⟩, rfl⟩
  · obtain ⟨i2, ⟨i1, ⟨i0, hi, g0⟩, g1⟩, g2⟩ := hG
    have hi : i0 = 0 := hi
    subst hi
    exact Or.inr ⟨i1, cs 0, none, g0, Or.inr ⟨i2, cs 1, none, g1, Or.inr ⟨k, cs 2, none, g2, ⟨rfl, h0⟩, rfl⟩, rfl⟩, rfl⟩
theorem OUT_g {S V : SV} {cs : Nat → List Int32} (h : GdS S V cs) : OUT S V 0 3 0 (some [cs 0, cs 1, cs 2]) := by
  obtain ⟨j, ⟨i2, ⟨i1, ⟨i0, hi, g0⟩, g1⟩, g2⟩, h0⟩ := h
  have hi : i0 = 0 := hi
  subst hi
  exact Or.inr ⟨i1, cs 0, some [cs 1, cs 2], g0, Or.inr ⟨i2, cs 1, some [cs 2], g1, Or.inr ⟨j, cs 2, some [], g2, ⟨rfl, h0⟩, rfl⟩, rfl⟩, rfl⟩
def YTm (T c0 : Nat) (a b : Nat) : Prop := YMb c0 a b ∨ YN a b ∨ ((a = 85 ∨ a = 86) ∧ 3 * T ≤ b ∧ b < 3 * T + 3) ∨ (a = 76 ∧ (b = 10 ∨ b = 12))
theorem RP.keep {M M' : MM} {pi b pi' b' : Nat} {cs : List Int32} (h : RP M pi b cs) (hs : Sm (YQ pi' b') M M') (hp : ¬ pi = pi') (hb : b + cs.length ≤ b') : RP M' pi b cs := by
  obtain ⟨a, d, e⟩ := h
  refine ⟨by rw [hs _ _ (by unfold YQ YMb YMa YN; omega)]; exact a, by rw [hs _ _ (by unfold YQ YMb YMa YN; omega)]; exact d, fun t x ht => ?_⟩
  have := (List.getElem?_eq_some_iff.mp ht).1
  rw [hs _ _ (by unfold YQ YMb YMa YN; omega)]
  exact e t x ht
theorem TKm.fin {M : MM} {s v : Int32} (h : TKm M s v) : M 76 19 = 101 ↔ s = 0 := by
  rw [h.knd]
  rcases h.srt with rfl | rfl | rfl | rfl | rfl | rfl | rfl | rfl | rfl | rfl | rfl | rfl | rfl | rfl | rfl | rfl | rfl | rfl <;> decide
def T_X6_text (g : WG) (as : List Value) (M : MM) (Q : Option Value → MM → Prop) : Prop := ∃ T n m S V c0 k r, as = [.ref 76] ∧ M 76 12 = nI T ∧ T ≤ 6 ∧ (T = 6 → Q (some (.int (-4))) M) ∧ (T < 6 → STR (M 84) n m S V ∧ n ≤ 160 ∧ M 76 10 = nI n ∧ M 76 16 = nI c0 ∧ c0 ≤ 2000 ∧ OUT S V k 3 0 r ∧ (r = none → ∀ M', Sm (YTm T c0) M M' → M' 76 10 = 0 → M' 76 12 = nI T → M' 76 16 = nI c0 → Q (some (.int (-100 - nI (pl (M 84) n k)))) M') ∧ (∀ x y z, r = some [x, y, z] → ∀ M', Sm (YTm T c0) M M' → M' 76 10 = 0 → M' 76 12 = nI (T + 1) → M' 76 16 = nI (c0 + x.length + y.length + z.length) → RP M' (3 * T) c0 x → RP M' (3 * T + 1) (c0 + x.length) y → RP M' (3 * T + 2) (c0 + x.length + y.length) z → Q (some (.int (nI T))) M'))
set_option maxRecDepth 100000 in
set_option maxHeartbeats 4000000 in
theorem t_X6_text {l : Launch} {g : WG} (hg : Full g) : Ct l g yX6_text cX6_text 3 ((Option.some FieldType.int)) 6 (T_X6_text g) := by
  refine Ct.of (by decide) (fun as M Q h => ?_) (fun p e s m args below meth c as M Q h C => ?_)
  · obtain ⟨T, nn, m', S, V, c0, k, r, rfl, h12, hT, h6, hlt⟩ := h; exact ⟨by simp, by simp [Value.category]⟩
  · obtain ⟨T, nn, m', S, V, c0, k, r, rfl, h12, hT, h6, hlt⟩ := h
    refine s_of (fun lv st M0 hs => ?_) (WX6_text_0 C (t_X6_next hg) (by decide) (t_X6_part hg) (by decide))
    obtain ⟨rfl, rfl, rfl⟩ := hs
    unfold BX6_text_0
    generalize hB26 : BX6_text_26 g Q (T_X6_next g) (T_X6_part g) = B26
    simp only [T_X6_next, T_X6_part, i_const, i_lconst, i_iload, i_aload, i_lload, i_istore, i_astore, i_lstore, i_iinc, i_bin, i_div, i_un, i_i2l, i_l2i, i_lbin, i_lcmp, i_if, i_icmp, i_dup, i_dup_x1, i_dup2, i_pop, i_geti, i_getr, i_getd, i_puti, i_putz, i_putd, i_iald, i_bald, i_aald, i_iast, i_bast, i_alen, i_keep, i_ret, i_retz, i_reta, i_retl, i_retv, i_callv, i_callk, i_calls, i_mm, i_copy, i_under, i_undld, i_ldcs, i_sw, q_swc0, q_swc1, q_lg0, q_lg1, q_lent0, q_lent1, lset, lset2, q_lins0, q_lins1, q_ldel0, q_ldel1, q_ldel20, q_ldel21, q_lkeep0, q_lkeep1, q_memb0, q_memb1, cat2, Nat.reduceBEq, decide_true, decide_false, decide_eq_true_eq, cond_true, cond_false, Bool.and_true, Bool.and_false, Bool.true_and, Bool.false_and, f_iadd, f_isub, f_imul, f_ishl, f_ishr, f_iushr, f_iand, f_ior, f_idiv, f_irem, f_ineg, f_i2b, f_i2s, f_ladd, f_lmul, c_eq, c_ne, c_lt, c_ge, c_gt, c_le, cc_eq, cc_ne, cc_lt, cc_ge, cc_gt, cc_le, rfo, aof, csum, Value.category, List.take, List.drop, List.reverse, List.reverseAux, List.map, List.sum_cons, List.sum_nil, List.cons_append, List.nil_append, Option.toList, List.mem_cons, List.not_mem_nil, List.length_cons, List.length_nil, reduceIte, Nat.reduceEqDiff, Nat.reduceAdd, Nat.reduceLeDiff, Nat.reduceLT, a_day, Nat.zero_ne_one, Nat.one_ne_zero, false_and, and_false, true_and, and_true, or_false, false_or, or_true, true_or, not_true_eq_false, not_false_eq_true, Nat.zero_add, Nat.add_zero, Nat.le_refl, Nat.lt_irrefl, Nat.zero_lt_succ, Nat.zero_le, forall_const, List.cons.injEq, Value.int.injEq, Value.ref.injEq, Value.long.injEq, and_assoc, exists_and_left, exists_eq_left']
    try simp only [forall_eq]
    rw [h12, show (6 : Int32) = nI 6 from rfl, nI_eq (by omega) (by decide)]
    refine ⟨m_76 hg, fun z => ?_, fun z => h6 (by omega)⟩
    have hT5 : T < 6 := by omega
    obtain ⟨hST, hnn, h10, h16, hc0, hO, hf, hgd⟩ := hlt hT5
    obtain ⟨B, hB⟩ : ∃ B, M0 84 = B := ⟨_, rfl⟩
    rw [hB] at hST hf
    have q84 : mset M0 76 18 0 84 = B := by rw [← hB]; exact funext fun j => ms_q (by decide)
    refine ⟨m_76 hg, m_76 hg, (m_76 hg).1, (m_76 hg).2.1, 0, by rw [ms_s]; rfl, nn, Nat.zero_le _, hnn, by rw [ms_j (by decide)]; exact h10, fun M1 hs1 h17 h18 t1 t2 => ?_⟩
    rw [q84] at h17 h18 t1 t2
    have hs01 : Sm YN M0 M1 := (Sm.rf.set _ ⟨rfl, by decide, by decide⟩).tr hs1
    have hA0 : AT M1 B nn m' S V 0 := by
      obtain ⟨g1, g2, g3, g4, g5⟩ := hST
      refine ⟨Nat.zero_le _, h17, h18, ?_, ?_, ?_⟩
      · by_cases z : 0 = m'
        · rw [z, g3, g4]
          refine t2 ?_
          have : pl B nn 0 = nn := by rw [z]; exact g2
          exact Nat.le_of_eq this.symm
        · obtain ⟨a, b, d⟩ := g5 0 (by omega)
          rw [b, d]
          exact t1 a
      · rw [← hB]; exact funext fun j => hs01 _ _ (by unfold YN; omega)
      · rw [hs01 _ _ (by unfold YN; omega)]; exact h10
    have sq : ∀ pi b, 3 * T ≤ pi → pi < 3 * T + 3 → c0 ≤ b → ∀ x y, YQ pi b x y → YTm T c0 x y := fun pi b h1 h2 h3 x y q => by
      unfold YQ YMb YMa YN at q
      unfold YTm YMb YMa YN
      omega
    have hs1' : Sm (YTm T c0) M0 M1 := hs01.mono fun _ _ q => Or.inr (Or.inl q)
    have k12 : ∀ (M2 M3 : MM) pi b, Sm (YQ pi b) M2 M3 → M3 76 12 = M2 76 12 := fun M2 M3 pi b hs => hs _ _ (by unfold YQ YMb YMa YN; omega)
    have go88 : ∀ M2, Sm (YTm T c0) M0 M2 → M2 76 12 = nI T → M2 76 17 = nI (pl B nn k) → r = none → BX6_text_88 g Q (T_X6_next g) (T_X6_part g) [(0, .ref 76), (1, .int (nI c0))] [] M2 := by
      intro M2 hs2 e12 e17 hr0
      unfold BX6_text_88
      simp only [i_const, i_lconst, i_iload, i_aload, i_lload, i_istore, i_astore, i_lstore, i_iinc, i_bin, i_div, i_un, i_i2l, i_l2i, i_lbin, i_lcmp, i_if, i_icmp, i_dup, i_dup_x1, i_dup2, i_pop, i_geti, i_getr, i_getd, i_puti, i_putz, i_putd, i_iald, i_bald, i_aald, i_iast, i_bast, i_alen, i_keep, i_ret, i_retz, i_reta, i_retl, i_retv, i_callv, i_callk, i_calls, i_mm, i_copy, i_under, i_undld, i_ldcs, i_sw, q_swc0, q_swc1, q_lg0, q_lg1, q_lent0, q_lent1, lset, lset2, q_lins0, q_lins1, q_ldel0, q_ldel1, q_ldel20, q_ldel21, q_lkeep0, q_lkeep1, q_memb0, q_memb1, cat2, Nat.reduceBEq, decide_true, decide_false, decide_eq_true_eq, cond_true, cond_false, Bool.and_true, Bool.and_false, Bool.true_and, Bool.false_and, f_iadd, f_isub, f_imul, f_ishl, f_ishr, f_iushr, f_iand, f_ior, f_idiv, f_irem, f_ineg, f_i2b, f_i2s, f_ladd, f_lmul, c_eq, c_ne, c_lt, c_ge, c_gt, c_le, cc_eq, cc_ne, cc_lt, cc_ge, cc_gt, cc_le, rfo, aof, csum, Value.category, List.take, List.drop, List.reverse, List.reverseAux, List.map, List.sum_cons, List.sum_nil, List.cons_append, List.nil_append, Option.toList, List.mem_cons, List.not_mem_nil, List.length_cons, List.length_nil, reduceIte, Nat.reduceEqDiff, Nat.reduceAdd, Nat.reduceLeDiff, Nat.reduceLT, a_day, Nat.zero_ne_one, Nat.one_ne_zero, false_and, and_false, true_and, and_true, or_false, false_or, or_true, true_or, not_true_eq_false, not_false_eq_true, Nat.zero_add, Nat.add_zero, Nat.le_refl, Nat.lt_irrefl, Nat.zero_lt_succ, Nat.zero_le, forall_const, List.cons.injEq, Value.int.injEq, Value.ref.injEq, Value.long.injEq, and_assoc, exists_and_left, exists_eq_left', forall_eq]
      unfold BX6_text_89
      simp only [i_const, i_lconst, i_iload, i_aload, i_lload, i_istore, i_astore, i_lstore, i_iinc, i_bin, i_div, i_un, i_i2l, i_l2i, i_lbin, i_lcmp, i_if, i_icmp, i_dup, i_dup_x1, i_dup2, i_pop, i_geti, i_getr, i_getd, i_puti, i_putz, i_putd, i_iald, i_bald, i_aald, i_iast, i_bast, i_alen, i_keep, i_ret, i_retz, i_reta, i_retl, i_retv, i_callv, i_callk, i_calls, i_mm, i_copy, i_under, i_undld, i_ldcs, i_sw, q_swc0, q_swc1, q_lg0, q_lg1, q_lent0, q_lent1, lset, lset2, q_lins0, q_lins1, q_ldel0, q_ldel1, q_ldel20, q_ldel21, q_lkeep0, q_lkeep1, q_memb0, q_memb1, cat2, Nat.reduceBEq, decide_true, decide_false, decide_eq_true_eq, cond_true, cond_false, Bool.and_true, Bool.and_false, Bool.true_and, Bool.false_and, f_iadd, f_isub, f_imul, f_ishl, f_ishr, f_iushr, f_iand, f_ior, f_idiv, f_irem, f_ineg, f_i2b, f_i2s, f_ladd, f_lmul, c_eq, c_ne, c_lt, c_ge, c_gt, c_le, cc_eq, cc_ne, cc_lt, cc_ge, cc_gt, cc_le, rfo, aof, csum, Value.category, List.take, List.drop, List.reverse, List.reverseAux, List.map, List.sum_cons, List.sum_nil, List.cons_append, List.nil_append, Option.toList, List.mem_cons, List.not_mem_nil, List.length_cons, List.length_nil, reduceIte, Nat.reduceEqDiff, Nat.reduceAdd, Nat.reduceLeDiff, Nat.reduceLT, a_day, Nat.zero_ne_one, Nat.one_ne_zero, false_and, and_false, true_and, and_true, or_false, false_or, or_true, true_or, not_true_eq_false, not_false_eq_true, Nat.zero_add, Nat.add_zero, Nat.le_refl, Nat.lt_irrefl, Nat.zero_lt_succ, Nat.zero_le, forall_const, List.cons.injEq, Value.int.injEq, Value.ref.injEq, Value.long.injEq, and_assoc, exists_and_left, exists_eq_left', forall_eq]
      refine ⟨m_76 hg, m_76 hg, m_76 hg, ?_, fun z => z.elim⟩
      rw [ms_j (by decide), ms_j (by decide), e17]
      exact hf hr0 _ ((hs2.set _ (Or.inr (Or.inr (Or.inr ⟨rfl, Or.inl rfl⟩)))).set _ (Or.inl (Or.inl (Or.inl ⟨rfl, Or.inl rfl⟩)))) (by rw [ms_j (by decide), ms_s]) (by rw [ms_j (by decide), ms_j (by decide)]; exact e12) (ms_s _ _ _ _)
    have e12 : M1 76 12 = nI T := by rw [hs01 _ _ (by unfold YN; omega)]; exact h12
    have e16 : M1 76 16 = nI c0 := by rw [hs01 _ _ (by unfold YN; omega)]; exact h16
    rw [h16]
    subst hB26
    unfold BX6_text_26
    generalize hB38 : BX6_text_38 g Q (T_X6_next g) (T_X6_part g) = B38
    simp only [T_X6_next, T_X6_part, i_const, i_lconst, i_iload, i_aload, i_lload, i_istore, i_astore, i_lstore, i_iinc, i_bin, i_div, i_un, i_i2l, i_l2i, i_lbin, i_lcmp, i_if, i_icmp, i_dup, i_dup_x1, i_dup2, i_pop, i_geti, i_getr, i_getd, i_puti, i_putz, i_putd, i_iald, i_bald, i_aald, i_iast, i_bast, i_alen, i_keep, i_ret, i_retz, i_reta, i_retl, i_retv, i_callv, i_callk, i_calls, i_mm, i_copy, i_under, i_undld, i_ldcs, i_sw, q_swc0, q_swc1, q_lg0, q_lg1, q_lent0, q_lent1, lset, lset2, q_lins0, q_lins1, q_ldel0, q_ldel1, q_ldel20, q_ldel21, q_lkeep0, q_lkeep1, q_memb0, q_memb1, cat2, Nat.reduceBEq, decide_true, decide_false, decide_eq_true_eq, cond_true, cond_false, Bool.and_true, Bool.and_false, Bool.true_and, Bool.false_and, f_iadd, f_isub, f_imul, f_ishl, f_ishr, f_iushr, f_iand, f_ior, f_idiv, f_irem, f_ineg, f_i2b, f_i2s, f_ladd, f_lmul, c_eq, c_ne, c_lt, c_ge, c_gt, c_le, cc_eq, cc_ne, cc_lt, cc_ge, cc_gt, cc_le, rfo, aof, csum, Value.category, List.take, List.drop, List.reverse, List.reverseAux, List.map, List.sum_cons, List.sum_nil, List.cons_append, List.nil_append, Option.toList, List.mem_cons, List.not_mem_nil, List.length_cons, List.length_nil, reduceIte, Nat.reduceEqDiff, Nat.reduceAdd, Nat.reduceLeDiff, Nat.reduceLT, a_day, Nat.zero_ne_one, Nat.one_ne_zero, false_and, and_false, true_and, and_true, or_false, false_or, or_true, true_or, not_true_eq_false, not_false_eq_true, Nat.zero_add, Nat.add_zero, Nat.le_refl, Nat.lt_irrefl, Nat.zero_lt_succ, Nat.zero_le, forall_const, List.cons.injEq, Value.int.injEq, Value.ref.injEq, Value.long.injEq, and_assoc, exists_and_left, exists_eq_left']
    try simp only [forall_eq]
    rw [e12, show (3 : Int32) = nI 3 from rfl, pk_mul]
    rw [hA0.2.2.2.2.1]
    rcases hO with ⟨hPF, hr0⟩ | ⟨j1, c1, r1, hPG1, hO1, hr1⟩
    · refine ⟨m_76 hg, (m_76 hg).1, (m_76 hg).2.1, 3 * T, rfl, 0, rfl, by decide, by omega, nn, m', S, V, hST, hnn, c0, 0, hA0, e16, by omega, Or.inl ⟨k, hPF, fun M2 hs2 e17 => ?_⟩⟩
      subst hB38
      unfold BX6_text_38
      generalize hB55 : BX6_text_55 g Q (T_X6_next g) (T_X6_part g) = B55
      generalize hB88 : BX6_text_88 g Q (T_X6_next g) (T_X6_part g) = B88
      simp only [T_X6_next, T_X6_part, i_const, i_lconst, i_iload, i_aload, i_lload, i_istore, i_astore, i_lstore, i_iinc, i_bin, i_div, i_un, i_i2l, i_l2i, i_lbin, i_lcmp, i_if, i_icmp, i_dup, i_dup_x1, i_dup2, i_pop, i_geti, i_getr, i_getd, i_puti, i_putz, i_putd, i_iald, i_bald, i_aald, i_iast, i_bast, i_alen, i_keep, i_ret, i_retz, i_reta, i_retl, i_retv, i_callv, i_callk, i_calls, i_mm, i_copy, i_under, i_undld, i_ldcs, i_sw, q_swc0, q_swc1, q_lg0, q_lg1, q_lent0, q_lent1, lset, lset2, q_lins0, q_lins1, q_ldel0, q_ldel1, q_ldel20, q_ldel21, q_lkeep0, q_lkeep1, q_memb0, q_memb1, cat2, Nat.reduceBEq, decide_true, decide_false, decide_eq_true_eq, cond_true, cond_false, Bool.and_true, Bool.and_false, Bool.true_and, Bool.false_and, f_iadd, f_isub, f_imul, f_ishl, f_ishr, f_iushr, f_iand, f_ior, f_idiv, f_irem, f_ineg, f_i2b, f_i2s, f_ladd, f_lmul, c_eq, c_ne, c_lt, c_ge, c_gt, c_le, cc_eq, cc_ne, cc_lt, cc_ge, cc_gt, cc_le, rfo, aof, csum, Value.category, List.take, List.drop, List.reverse, List.reverseAux, List.map, List.sum_cons, List.sum_nil, List.cons_append, List.nil_append, Option.toList, List.mem_cons, List.not_mem_nil, List.length_cons, List.length_nil, reduceIte, Nat.reduceEqDiff, Nat.reduceAdd, Nat.reduceLeDiff, Nat.reduceLT, a_day, Nat.zero_ne_one, Nat.one_ne_zero, false_and, and_false, true_and, and_true, or_false, false_or, or_true, true_or, not_true_eq_false, not_false_eq_true, Nat.zero_add, Nat.add_zero, Nat.le_refl, Nat.lt_irrefl, Nat.zero_lt_succ, Nat.zero_le, forall_const, List.cons.injEq, Value.int.injEq, Value.ref.injEq, Value.long.injEq, and_assoc, exists_and_left, exists_eq_left']
      try simp only [forall_eq]
      subst hB88
      exact ⟨go88 M2 (hs1'.tr (hs2.mono (sq _ _ (by omega) (by omega) (by omega)))) ((k12 _ _ _ _ hs2).trans e12) e17 hr0, fun z => z.elim⟩
    · refine ⟨m_76 hg, (m_76 hg).1, (m_76 hg).2.1, 3 * T, rfl, 0, rfl, by decide, by omega, nn, m', S, V, hST, hnn, c0, 0, hA0, e16, by omega, Or.inr ⟨j1, c1, hPG1, fun M2 hs2 hA2 hR1 hl1 f16 => ?_⟩⟩
      have f12 := (k12 _ _ _ _ hs2).trans e12
      have hs02 := hs1'.tr (hs2.mono (sq _ _ (by omega) (by omega) (by omega)))
      subst hB38
      unfold BX6_text_38
      generalize hB55 : BX6_text_55 g Q (T_X6_next g) (T_X6_part g) = B55
      generalize hB88 : BX6_text_88 g Q (T_X6_next g) (T_X6_part g) = B88
      simp only [T_X6_next, T_X6_part, i_const, i_lconst, i_iload, i_aload, i_lload, i_istore, i_astore, i_lstore, i_iinc, i_bin, i_div, i_un, i_i2l, i_l2i, i_lbin, i_lcmp, i_if, i_icmp, i_dup, i_dup_x1, i_dup2, i_pop, i_geti, i_getr, i_getd, i_puti, i_putz, i_putd, i_iald, i_bald, i_aald, i_iast, i_bast, i_alen, i_keep, i_ret, i_retz, i_reta, i_retl, i_retv, i_callv, i_callk, i_calls, i_mm, i_copy, i_under, i_undld, i_ldcs, i_sw, q_swc0, q_swc1, q_lg0, q_lg1, q_lent0, q_lent1, lset, lset2, q_lins0, q_lins1, q_ldel0, q_ldel1, q_ldel20, q_ldel21, q_lkeep0, q_lkeep1, q_memb0, q_memb1, cat2, Nat.reduceBEq, decide_true, decide_false, decide_eq_true_eq, cond_true, cond_false, Bool.and_true, Bool.and_false, Bool.true_and, Bool.false_and, f_iadd, f_isub, f_imul, f_ishl, f_ishr, f_iushr, f_iand, f_ior, f_idiv, f_irem, f_ineg, f_i2b, f_i2s, f_ladd, f_lmul, c_eq, c_ne, c_lt, c_ge, c_gt, c_le, cc_eq, cc_ne, cc_lt, cc_ge, cc_gt, cc_le, rfo, aof, csum, Value.category, List.take, List.drop, List.reverse, List.reverseAux, List.map, List.sum_cons, List.sum_nil, List.cons_append, List.nil_append, Option.toList, List.mem_cons, List.not_mem_nil, List.length_cons, List.length_nil, reduceIte, Nat.reduceEqDiff, Nat.reduceAdd, Nat.reduceLeDiff, Nat.reduceLT, a_day, Nat.zero_ne_one, Nat.one_ne_zero, false_and, and_false, true_and, and_true, or_false, false_or, or_true, true_or, not_true_eq_false, not_false_eq_true, Nat.zero_add, Nat.add_zero, Nat.le_refl, Nat.lt_irrefl, Nat.zero_lt_succ, Nat.zero_le, forall_const, List.cons.injEq, Value.int.injEq, Value.ref.injEq, Value.long.injEq, and_assoc, exists_and_left, exists_eq_left']
      try simp only [forall_eq]
      refine ⟨fun z => absurd z (by decide), fun _ => ?_⟩
      rw [f12, show (3 : Int32) = nI 3 from rfl, pk_mul, nI_1, hA2.2.2.2.2.1]
      rcases hO1 with ⟨hPF, hr0⟩ | ⟨j2, c2, r2, hPG2, hO2, hr2⟩
      · refine ⟨m_76 hg, (m_76 hg).1, (m_76 hg).2.1, 3 * T + 1, rfl, 1, rfl, by decide, by omega, nn, m', S, V, hST, hnn, c0 + c1.length, j1, hA2, f16, by omega, Or.inl ⟨k, hPF, fun M3 hs3 e17 => ?_⟩⟩
        subst hB55
        unfold BX6_text_55
        generalize hB72 : BX6_text_72 g Q (T_X6_next g) (T_X6_part g) = B72
        generalize hB88 : BX6_text_88 g Q (T_X6_next g) (T_X6_part g) = B88
        simp only [T_X6_next, T_X6_part, i_const, i_lconst, i_iload, i_aload, i_lload, i_istore, i_astore, i_lstore, i_iinc, i_bin, i_div, i_un, i_i2l, i_l2i, i_lbin, i_lcmp, i_if, i_icmp, i_dup, i_dup_x1, i_dup2, i_pop, i_geti, i_getr, i_getd, i_puti, i_putz, i_putd, i_iald, i_bald, i_aald, i_iast, i_bast, i_alen, i_keep, i_ret, i_retz, i_reta, i_retl, i_retv, i_callv, i_callk, i_calls, i_mm, i_copy, i_under, i_undld, i_ldcs, i_sw, q_swc0, q_swc1, q_lg0, q_lg1, q_lent0, q_lent1, lset, lset2, q_lins0, q_lins1, q_ldel0, q_ldel1, q_ldel20, q_ldel21, q_lkeep0, q_lkeep1, q_memb0, q_memb1, cat2, Nat.reduceBEq, decide_true, decide_false, decide_eq_true_eq, cond_true, cond_false, Bool.and_true, Bool.and_false, Bool.true_and, Bool.false_and, f_iadd, f_isub, f_imul, f_ishl, f_ishr, f_iushr, f_iand, f_ior, f_idiv, f_irem, f_ineg, f_i2b, f_i2s, f_ladd, f_lmul, c_eq, c_ne, c_lt, c_ge, c_gt, c_le, cc_eq, cc_ne, cc_lt, cc_ge, cc_gt, cc_le, rfo, aof, csum, Value.category, List.take, List.drop, List.reverse, List.reverseAux, List.map, List.sum_cons, List.sum_nil, List.cons_append, List.nil_append, Option.toList, List.mem_cons, List.not_mem_nil, List.length_cons, List.length_nil, reduceIte, Nat.reduceEqDiff, Nat.reduceAdd, Nat.reduceLeDiff, Nat.reduceLT, a_day, Nat.zero_ne_one, Nat.one_ne_zero, false_and, and_false, true_and, and_true, or_false, false_or, or_true, true_or, not_true_eq_false, not_false_eq_true, Nat.zero_add, Nat.add_zero, Nat.le_refl, Nat.lt_irrefl, Nat.zero_lt_succ, Nat.zero_le, forall_const, List.cons.injEq, Value.int.injEq, Value.ref.injEq, Value.long.injEq, and_assoc, exists_and_left, exists_eq_left']
        try simp only [forall_eq]
        subst hB88
        exact ⟨go88 M3 (hs02.tr (hs3.mono (sq _ _ (by omega) (by omega) (by omega)))) ((k12 _ _ _ _ hs3).trans f12) e17 (by rw [hr1, hr0]; rfl), fun z => z.elim⟩
      · refine ⟨m_76 hg, (m_76 hg).1, (m_76 hg).2.1, 3 * T + 1, rfl, 1, rfl, by decide, by omega, nn, m', S, V, hST, hnn, c0 + c1.length, j1, hA2, f16, by omega, Or.inr ⟨j2, c2, hPG2, fun M3 hs3 hA3 hR2 hl2 g16 => ?_⟩⟩
        have g12 := (k12 _ _ _ _ hs3).trans f12
        have hs03 := hs02.tr (hs3.mono (sq _ _ (by omega) (by omega) (by omega)))
        have hR1' := hR1.keep hs3 (by omega) (Nat.le_refl _)
        subst hB55
        unfold BX6_text_55
        generalize hB72 : BX6_text_72 g Q (T_X6_next g) (T_X6_part g) = B72
        generalize hB88 : BX6_text_88 g Q (T_X6_next g) (T_X6_part g) = B88
        simp only [T_X6_next, T_X6_part, i_const, i_lconst, i_iload, i_aload, i_lload, i_istore, i_astore, i_lstore, i_iinc, i_bin, i_div, i_un, i_i2l, i_l2i, i_lbin, i_lcmp, i_if, i_icmp, i_dup, i_dup_x1, i_dup2, i_pop, i_geti, i_getr, i_getd, i_puti, i_putz, i_putd, i_iald, i_bald, i_aald, i_iast, i_bast, i_alen, i_keep, i_ret, i_retz, i_reta, i_retl, i_retv, i_callv, i_callk, i_calls, i_mm, i_copy, i_under, i_undld, i_ldcs, i_sw, q_swc0, q_swc1, q_lg0, q_lg1, q_lent0, q_lent1, lset, lset2, q_lins0, q_lins1, q_ldel0, q_ldel1, q_ldel20, q_ldel21, q_lkeep0, q_lkeep1, q_memb0, q_memb1, cat2, Nat.reduceBEq, decide_true, decide_false, decide_eq_true_eq, cond_true, cond_false, Bool.and_true, Bool.and_false, Bool.true_and, Bool.false_and, f_iadd, f_isub, f_imul, f_ishl, f_ishr, f_iushr, f_iand, f_ior, f_idiv, f_irem, f_ineg, f_i2b, f_i2s, f_ladd, f_lmul, c_eq, c_ne, c_lt, c_ge, c_gt, c_le, cc_eq, cc_ne, cc_lt, cc_ge, cc_gt, cc_le, rfo, aof, csum, Value.category, List.take, List.drop, List.reverse, List.reverseAux, List.map, List.sum_cons, List.sum_nil, List.cons_append, List.nil_append, Option.toList, List.mem_cons, List.not_mem_nil, List.length_cons, List.length_nil, reduceIte, Nat.reduceEqDiff, Nat.reduceAdd, Nat.reduceLeDiff, Nat.reduceLT, a_day, Nat.zero_ne_one, Nat.one_ne_zero, false_and, and_false, true_and, and_true, or_false, false_or, or_true, true_or, not_true_eq_false, not_false_eq_true, Nat.zero_add, Nat.add_zero, Nat.le_refl, Nat.lt_irrefl, Nat.zero_lt_succ, Nat.zero_le, forall_const, List.cons.injEq, Value.int.injEq, Value.ref.injEq, Value.long.injEq, and_assoc, exists_and_left, exists_eq_left']
        try simp only [forall_eq]
        refine ⟨fun z => absurd z (by decide), fun _ => ?_⟩
        rw [g12, show (3 : Int32) = nI 3 from rfl, pk_mul, show (2 : Int32) = nI 2 from rfl, nI_add, hA3.2.2.2.2.1]
        rcases hO2 with ⟨hPF, hr0⟩ | ⟨j3, c3, r3, hPG3, hO3, hr3⟩
        · refine ⟨m_76 hg, (m_76 hg).1, (m_76 hg).2.1, 3 * T + 2, rfl, 2, rfl, by decide, by omega, nn, m', S, V, hST, hnn, c0 + c1.length + c2.length, j2, hA3, g16, by omega, Or.inl ⟨k, hPF, fun M4 hs4 e17 => ?_⟩⟩
          subst hB72
          unfold BX6_text_72
          generalize hB88 : BX6_text_88 g Q (T_X6_next g) (T_X6_part g) = B88
          generalize hB89 : BX6_text_89 g Q (T_X6_next g) (T_X6_part g) = B89
          simp only [T_X6_next, T_X6_part, i_const, i_lconst, i_iload, i_aload, i_lload, i_istore, i_astore, i_lstore, i_iinc, i_bin, i_div, i_un, i_i2l, i_l2i, i_lbin, i_lcmp, i_if, i_icmp, i_dup, i_dup_x1, i_dup2, i_pop, i_geti, i_getr, i_getd, i_puti, i_putz, i_putd, i_iald, i_bald, i_aald, i_iast, i_bast, i_alen, i_keep, i_ret, i_retz, i_reta, i_retl, i_retv, i_callv, i_callk, i_calls, i_mm, i_copy, i_under, i_undld, i_ldcs, i_sw, q_swc0, q_swc1, q_lg0, q_lg1, q_lent0, q_lent1, lset, lset2, q_lins0, q_lins1, q_ldel0, q_ldel1, q_ldel20, q_ldel21, q_lkeep0, q_lkeep1, q_memb0, q_memb1, cat2, Nat.reduceBEq, decide_true, decide_false, decide_eq_true_eq, cond_true, cond_false, Bool.and_true, Bool.and_false, Bool.true_and, Bool.false_and, f_iadd, f_isub, f_imul, f_ishl, f_ishr, f_iushr, f_iand, f_ior, f_idiv, f_irem, f_ineg, f_i2b, f_i2s, f_ladd, f_lmul, c_eq, c_ne, c_lt, c_ge, c_gt, c_le, cc_eq, cc_ne, cc_lt, cc_ge, cc_gt, cc_le, rfo, aof, csum, Value.category, List.take, List.drop, List.reverse, List.reverseAux, List.map, List.sum_cons, List.sum_nil, List.cons_append, List.nil_append, Option.toList, List.mem_cons, List.not_mem_nil, List.length_cons, List.length_nil, reduceIte, Nat.reduceEqDiff, Nat.reduceAdd, Nat.reduceLeDiff, Nat.reduceLT, a_day, Nat.zero_ne_one, Nat.one_ne_zero, false_and, and_false, true_and, and_true, or_false, false_or, or_true, true_or, not_true_eq_false, not_false_eq_true, Nat.zero_add, Nat.add_zero, Nat.le_refl, Nat.lt_irrefl, Nat.zero_lt_succ, Nat.zero_le, forall_const, List.cons.injEq, Value.int.injEq, Value.ref.injEq, Value.long.injEq, and_assoc, exists_and_left, exists_eq_left']
          try simp only [forall_eq]
          subst hB88
          exact ⟨go88 M4 (hs03.tr (hs4.mono (sq _ _ (by omega) (by omega) (by omega)))) ((k12 _ _ _ _ hs4).trans g12) e17 (by rw [hr1, hr2, hr0]; rfl), fun z => z.elim⟩
        · refine ⟨m_76 hg, (m_76 hg).1, (m_76 hg).2.1, 3 * T + 2, rfl, 2, rfl, by decide, by omega, nn, m', S, V, hST, hnn, c0 + c1.length + c2.length, j2, hA3, g16, by omega, Or.inr ⟨j3, c3, hPG3, fun M4 hs4 hA4 hR3 hl3 i16 => ?_⟩⟩
          have i12 := (k12 _ _ _ _ hs4).trans g12
          have hs04 := hs03.tr (hs4.mono (sq _ _ (by omega) (by omega) (by omega)))
          have hR1'' := hR1'.keep hs4 (by omega) (by omega)
          have hR2' := hR2.keep hs4 (by omega) (Nat.le_refl _)
          subst hB72
          unfold BX6_text_72
          generalize hB88 : BX6_text_88 g Q (T_X6_next g) (T_X6_part g) = B88
          generalize hB89 : BX6_text_89 g Q (T_X6_next g) (T_X6_part g) = B89
          simp only [T_X6_next, T_X6_part, i_const, i_lconst, i_iload, i_aload, i_lload, i_istore, i_astore, i_lstore, i_iinc, i_bin, i_div, i_un, i_i2l, i_l2i, i_lbin, i_lcmp, i_if, i_icmp, i_dup, i_dup_x1, i_dup2, i_pop, i_geti, i_getr, i_getd, i_puti, i_putz, i_putd, i_iald, i_bald, i_aald, i_iast, i_bast, i_alen, i_keep, i_ret, i_retz, i_reta, i_retl, i_retv, i_callv, i_callk, i_calls, i_mm, i_copy, i_under, i_undld, i_ldcs, i_sw, q_swc0, q_swc1, q_lg0, q_lg1, q_lent0, q_lent1, lset, lset2, q_lins0, q_lins1, q_ldel0, q_ldel1, q_ldel20, q_ldel21, q_lkeep0, q_lkeep1, q_memb0, q_memb1, cat2, Nat.reduceBEq, decide_true, decide_false, decide_eq_true_eq, cond_true, cond_false, Bool.and_true, Bool.and_false, Bool.true_and, Bool.false_and, f_iadd, f_isub, f_imul, f_ishl, f_ishr, f_iushr, f_iand, f_ior, f_idiv, f_irem, f_ineg, f_i2b, f_i2s, f_ladd, f_lmul, c_eq, c_ne, c_lt, c_ge, c_gt, c_le, cc_eq, cc_ne, cc_lt, cc_ge, cc_gt, cc_le, rfo, aof, csum, Value.category, List.take, List.drop, List.reverse, List.reverseAux, List.map, List.sum_cons, List.sum_nil, List.cons_append, List.nil_append, Option.toList, List.mem_cons, List.not_mem_nil, List.length_cons, List.length_nil, reduceIte, Nat.reduceEqDiff, Nat.reduceAdd, Nat.reduceLeDiff, Nat.reduceLT, a_day, Nat.zero_ne_one, Nat.one_ne_zero, false_and, and_false, true_and, and_true, or_false, false_or, or_true, true_or, not_true_eq_false, not_false_eq_true, Nat.zero_add, Nat.add_zero, Nat.le_refl, Nat.lt_irrefl, Nat.zero_lt_succ, Nat.zero_le, forall_const, List.cons.injEq, Value.int.injEq, Value.ref.injEq, Value.long.injEq, and_assoc, exists_and_left, exists_eq_left']
          try simp only [forall_eq]
          refine ⟨fun z => absurd z (by decide), fun _ => ⟨m_76 hg, fun z => ?_, fun z => ?_⟩⟩
          · subst hB88
            refine go88 M4 hs04 i12 ?_ ?_
            · cases r3 with
              | none => rw [hO3.1]; exact hA4.2.1
              | some l => exact absurd (hA4.2.2.2.1.fin.mpr hO3.2) z
            · cases r3 with
              | none => rw [hr1, hr2, hr3]; rfl
              | some l => exact absurd (hA4.2.2.2.1.fin.mpr hO3.2) z
          · have z := hA4.2.2.2.1.fin.mp (Decidable.not_not.mp z)
            have hr : r = some [c1, c2, c3] := by
              cases r3 with
              | none => exact absurd z hO3.2
              | some l => rw [hr1, hr2, hr3, hO3.1]; rfl
            subst hB89
            unfold BX6_text_89
            simp only [T_X6_next, T_X6_part, i_const, i_lconst, i_iload, i_aload, i_lload, i_istore, i_astore, i_lstore, i_iinc, i_bin, i_div, i_un, i_i2l, i_l2i, i_lbin, i_lcmp, i_if, i_icmp, i_dup, i_dup_x1, i_dup2, i_pop, i_geti, i_getr, i_getd, i_puti, i_putz, i_putd, i_iald, i_bald, i_aald, i_iast, i_bast, i_alen, i_keep, i_ret, i_retz, i_reta, i_retl, i_retv, i_callv, i_callk, i_calls, i_mm, i_copy, i_under, i_undld, i_ldcs, i_sw, q_swc0, q_swc1, q_lg0, q_lg1, q_lent0, q_lent1, lset, lset2, q_lins0, q_lins1, q_ldel0, q_ldel1, q_ldel20, q_ldel21, q_lkeep0, q_lkeep1, q_memb0, q_memb1, cat2, Nat.reduceBEq, decide_true, decide_false, decide_eq_true_eq, cond_true, cond_false, Bool.and_true, Bool.and_false, Bool.true_and, Bool.false_and, f_iadd, f_isub, f_imul, f_ishl, f_ishr, f_iushr, f_iand, f_ior, f_idiv, f_irem, f_ineg, f_i2b, f_i2s, f_ladd, f_lmul, c_eq, c_ne, c_lt, c_ge, c_gt, c_le, cc_eq, cc_ne, cc_lt, cc_ge, cc_gt, cc_le, rfo, aof, csum, Value.category, List.take, List.drop, List.reverse, List.reverseAux, List.map, List.sum_cons, List.sum_nil, List.cons_append, List.nil_append, Option.toList, List.mem_cons, List.not_mem_nil, List.length_cons, List.length_nil, reduceIte, Nat.reduceEqDiff, Nat.reduceAdd, Nat.reduceLeDiff, Nat.reduceLT, a_day, Nat.zero_ne_one, Nat.one_ne_zero, false_and, and_false, true_and, and_true, or_false, false_or, or_true, true_or, not_true_eq_false, not_false_eq_true, Nat.zero_add, Nat.add_zero, Nat.le_refl, Nat.lt_irrefl, Nat.zero_lt_succ, Nat.zero_le, forall_const, List.cons.injEq, Value.int.injEq, Value.ref.injEq, Value.long.injEq, and_assoc, exists_and_left, exists_eq_left']
            try simp only [forall_eq]
            have q12 : mset M4 76 10 0 76 12 = nI T := by rw [ms_j (by decide)]; exact i12
            rw [q12, nI_1]
            refine ⟨m_76 hg, fun q => absurd q (by decide), fun _ => ⟨m_76 hg, m_76 hg, hgd c1 c2 c3 hr _ ((hs04.set _ (Or.inr (Or.inr (Or.inr ⟨rfl, Or.inl rfl⟩)))).set _ (Or.inr (Or.inr (Or.inr ⟨rfl, Or.inr rfl⟩)))) (by rw [ms_j (by decide), ms_s]) (ms_s _ _ _ _) (by rw [ms_j (by decide), ms_j (by decide)]; exact i16) ?_ ?_ ?_⟩⟩
            · unfold RP; simp only [ms_q (show ¬ 85 = 76 by decide), ms_q (show ¬ 86 = 76 by decide), ms_q (show ¬ 87 = 76 by decide)]; exact hR1''
            · unfold RP; simp only [ms_q (show ¬ 85 = 76 by decide), ms_q (show ¬ 86 = 76 by decide), ms_q (show ¬ 87 = 76 by decide)]; exact hR2'
            · unfold RP; simp only [ms_q (show ¬ 85 = 76 by decide), ms_q (show ¬ 86 = 76 by decide), ms_q (show ¬ 87 = 76 by decide)]; exact hR3
    
