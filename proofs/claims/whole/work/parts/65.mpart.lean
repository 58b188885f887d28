/-! ===== the model reads a part ===== -/
/-- the model is at token q -/
def AT (M : MM) (B : Nat → Int32) (n m : Nat) (S V : SV) (q : Nat) : Prop := q ≤ m ∧ M 76 17 = nI (pl B n q) ∧ M 76 18 = nI (nxE B n (pl B n q)) ∧ TKm M (S q) (V q) ∧ M 84 = B ∧ M 76 10 = nI n
theorem AT.nx {M M' : MM} {B : Nat → Int32} {n m q : Nat} {S V : SV} (hST : STR B n m S V) (hq : q < m) (h : AT M B n m S V q) (hs : Sm YN M M') (h17 : M' 76 17 = nI (skp B n (tkE B n (pl B n q)))) (h18 : M' 76 18 = nI (nxE B n (skp B n (tkE B n (pl B n q))))) (t1 : skp B n (tkE B n (pl B n q)) < n → TKm M' (tkS B n (skp B n (tkE B n (pl B n q)))) (tkV B n (skp B n (tkE B n (pl B n q))))) (t2 : n ≤ skp B n (tkE B n (pl B n q)) → TKm M' 0 0) : AT M' B n m S V (q + 1) := by
  obtain ⟨g1, g2, g3, g4, g5⟩ := hST
  have hp := (g5 q hq).1
  have e : pl B n (q + 1) = skp B n (tkE B n (pl B n q)) := by simp only [pl]; rw [if_pos hp]
  rw [← e] at h17 h18 t1 t2
  refine ⟨hq, h17, h18, ?_, ?_, ?_⟩
  · by_cases c : q + 1 = m
    · rw [c, g3, g4]
      exact t2 (by rw [c, g2]; exact Nat.le_refl _)
    · obtain ⟨a, b, d⟩ := g5 (q + 1) (by omega)
      rw [b, d]
      exact t1 a
  · rw [← h.2.2.2.2.1]; exact funext fun j => hs _ _ (by unfold YN; omega)
  · rw [hs _ _ (by unfold YN; omega)]; exact h.2.2.2.2.2
theorem AT.sm {Y : Nat → Nat → Prop} {M M' : MM} {B : Nat → Int32} {n m q : Nat} {S V : SV} (h : AT M B n m S V q) (hs : Sm Y M M') (y : ∀ b, 17 ≤ b → b ≤ 21 → ¬ Y 76 b) (y10 : ¬ Y 76 10) (y84 : ∀ j, ¬ Y 84 j) : AT M' B n m S V q := by
  obtain ⟨a, b, c, d, e, k⟩ := h
  exact ⟨a, by rw [hs _ _ (y _ (by decide) (by decide))]; exact b, by rw [hs _ _ (y _ (by decide) (by decide))]; exact c, d.keep hs (fun b h1 h2 => y b (by omega) h2), by rw [← e]; exact funext fun j => hs _ _ (y84 j), by rw [hs _ _ y10]; exact k⟩
theorem STR.lt {B : Nat → Int32} {n m q : Nat} {S V : SV} (h : STR B n m S V) (hq : q ≤ m) (h0 : ¬ S q = 0) : q < m := by
  rcases Nat.lt_or_ge q m with w | w
  · exact w
  · have e : q = m := by omega
    rw [e, h.2.2.1] at h0
    exact absurd rfl h0
theorem step_0 {v : Int32} {x : MS} : step 0 v x = none := by
  obtain ⟨o, W, cm, bh, st⟩ := x
  cases bh with
  | false =>
    simp only [step]
    rw [if_neg (by decide), if_pos (Or.inl (fun q => by
      rcases q with q | q | q
      · exact absurd q.2 (by decide)
      · exact absurd q (by decide)
      · exact absurd q (by decide)))]
  | true =>
    simp only [step]
    rw [if_neg (by decide), if_pos ((show ∀ cm, sgn 0 cm = -1 by decide) cm)]
theorem step_59 {v : Int32} {x : MS} (h : x.2.2.2.1 = true) : step 59 v x = none := by
  obtain ⟨o, W, cm, bh, st⟩ := x
  simp only at h
  subst h
  simp only [step]
  rw [if_neg (by decide), if_pos ((show ∀ cm, sgn 59 cm = -1 by decide) cm)]
theorem stp_m {S V : SV} {m : Nat} (h0 : S m = 0) : ∀ k q x y, q ≤ m → stp S V k q x = some y → q + k ≤ m
  | 0, q, x, y, hq, _ => hq
  | k + 1, q, x, y, hq, h => by
    simp only [stp] at h
    by_cases c : q = m
    · rw [c, h0, step_0] at h; cases h
    · cases hs : step (S q) (V q) x with
      | none => rw [hs] at h; cases h
      | some z =>
        rw [hs] at h
        have := stp_m h0 k (q + 1) z y (by omega) h
        omega
theorem step_len {s v : Int32} {x y : MS} (h : step s v x = some y) : y.1.length + y.2.1.length ≤ x.1.length + x.2.1.length + 1 := by
  obtain ⟨o, W, cm, bh, st⟩ := x
  cases bh with
  | false =>
    simp only [step] at h
    split at h
    · simp only [Option.some.injEq] at h
      subst h
      have := lay_len 7 W (o ++ [if s = 2 then 15 + v else v])
      simp at this ⊢
      omega
    · split at h
      · cases h
      · split at h
        · simp only [Option.some.injEq] at h; subst h; simp; omega
        · split at h
          · simp only [Option.some.injEq] at h; subst h; simp; omega
          · simp only [Option.some.injEq] at h; subst h; simp; omega
  | true =>
    simp only [step] at h
    have hl := lay_len 1 W o
    split at h
    · cases hL : lay 1 o W with
      | mk o1 W2 =>
        rw [hL] at h hl
        cases W2 with
        | nil => cases h
        | cons b W1 =>
          simp only [Option.some.injEq] at h
          subst h
          have := lay_len 7 W1 o1
          simp at this hl ⊢
          omega
    · split at h
      · cases h
      · simp only [Option.some.injEq] at h
        subst h
        have := lay_len (rnk (sgn s cm)) W o
        simp at this ⊢
        omega
def YQ (pi c0 : Nat) (a b : Nat) : Prop := YMb c0 a b ∨ YN a b ∨ ((a = 85 ∨ a = 86) ∧ b = pi)
/-- a part stands in the model's rows -/
def RP (M : MM) (pi b : Nat) (cs : List Int32) : Prop := M 85 pi = nI b ∧ M 86 pi = nI cs.length ∧ ∀ t x, cs[t]? = some x → M 87 (b + t) = x
def T_X6_part (g : WG) (as : List Value) (M : MM) (Q : Option Value → MM → Prop) : Prop := ∃ pi p n m S V c0 q, as = [.ref 76, .int (nI pi), .int (cW (6 + p))] ∧ p < 3 ∧ pi < 18 ∧ STR (M 84) n m S V ∧ n ≤ 160 ∧ AT M (M 84) n m S V q ∧ M 76 16 = nI c0 ∧ c0 ≤ 2800 ∧ ((∃ k, PF S V p q k ∧ ∀ M', Sm (YQ pi c0) M M' → M' 76 17 = nI (pl (M 84) n k) → Q (some (.int 0)) M') ∨ (∃ j cs, PG S V p q j cs ∧ ∀ M', Sm (YQ pi c0) M M' → AT M' (M 84) n m S V j → RP M' pi c0 cs → cs.length ≤ 160 → M' 76 16 = nI (c0 + cs.length) → Q (some (.int 1)) M'))
set_option maxRecDepth 100000 in
set_option maxHeartbeats 4000000 in
theorem t_X6_part {l : Launch} {g : WG} (hg : Full g) : Ct l g yX6_part cX6_part 3 ((Option.some FieldType.boolean)) 5 (T_X6_part g) := by
  refine Ct.of (by decide) (fun as M Q h => ?_) (fun p e s m args below meth c as M Q h C => ?_)
  · obtain ⟨pi, q, nn, m', S, V, c0, i, rfl, hp, hpi, hST, hnn, hAT, h16, hc0, hor⟩ := h; exact ⟨by simp, by simp [Value.category]⟩
  · obtain ⟨pi, q, nn, m', S, V, c0, i, rfl, hp, hpi, hST, hnn, hAT, h16, hc0, hor⟩ := h
    obtain ⟨B, hB⟩ : ∃ B, M 84 = B := ⟨_, rfl⟩
    rw [hB] at hST hAT hor
    obtain ⟨I45, hI45⟩ : ∃ I : Nat → PP, I = (fun n lv st M' => ∃ j x k y, lv = [(0, .ref 76), (1, .int (nI pi))] ∧ st = [] ∧ n = m' - j ∧ AT M' B nn m' S V j ∧ MSt M' c0 x ∧ Sm (YQ pi c0) M M' ∧ M' 85 pi = nI c0 ∧ i + 1 ≤ j ∧ x.1.length + x.2.1.length ≤ j - (i + 1) ∧ j ≤ k ∧ stp S V (k - j) j x = some y ∧ ((flr (S k) (V k) y ∧ ∀ M', Sm (YQ pi c0) M M' → M' 76 17 = nI (pl B nn k) → Q (some (.int 0)) M') ∨ (∃ cs, S k = 59 ∧ y.2.2.2.1 = true ∧ lay 1 y.1 y.2.1 = (cs, []) ∧ ∀ M', Sm (YQ pi c0) M M' → AT M' B nn m' S V (k + 1) → RP M' pi c0 cs → cs.length ≤ 160 → M' 76 16 = nI (c0 + cs.length) → Q (some (.int 1)) M'))) := ⟨_, rfl⟩
    obtain ⟨E45, hE45⟩ : ∃ E : PP, E = (fun lv st M => ∃ n, I45 n lv st M) := ⟨_, rfl⟩
    have iE45 : ∀ n lv st M, I45 n lv st M → E45 lv st M := fun n lv st M h => by rw [hE45]; exact ⟨n, h⟩
    have L45 : Sj p l e 5 s m args below meth c 3 g (MQ below (cQc g Q) args s 0 0 (gA g)) 45 E45 := by
      rw [hE45]
      refine s_ex (s_loop I45 (fun K45 k45 => WX6_part_45 C (t_X6_takes hg) (by decide) (t_X6_goesOn hg) (by decide) (t_X6_next hg) (by decide) (t_X6_lays hg) (by decide) k45) ?_)
      intro n lv st M1 K45 hK45 hI; rw [hI45] at hI; obtain ⟨j, x, k, y, rfl, rfl, rfl, hA, hM, hs, h85, hij, hxl, hjk, hst, hout⟩ := hI
      unfold BX6_part_45
      generalize hB61 : BX6_part_61 g Q (T_X6_takes g) (T_X6_goesOn g) (T_X6_next g) (T_X6_lays g) K45 = B61
      generalize hB77 : BX6_part_77 g Q (T_X6_takes g) (T_X6_goesOn g) (T_X6_next g) (T_X6_lays g) K45 = B77
      simp only [T_X6_takes, T_X6_goesOn, T_X6_next, T_X6_lays, i_const, i_lconst, i_iload, i_aload, i_lload, i_istore, i_astore, i_lstore, i_iinc, i_bin, i_div, i_un, i_i2l, i_l2i, i_lbin, i_lcmp, i_if, i_icmp, i_dup, i_dup_x1, i_dup2, i_pop, i_geti, i_getr, i_getd, i_puti, i_putz, i_putd, i_iald, i_bald, i_aald, i_iast, i_bast, i_alen, i_keep, i_ret, i_retz, i_reta, i_retl, i_retv, i_callv, i_callk, i_calls, i_mm, i_copy, i_under, i_undld, i_ldcs, i_sw, q_swc0, q_swc1, q_lg0, q_lg1, q_lent0, q_lent1, lset, lset2, q_lins0, q_lins1, q_ldel0, q_ldel1, q_ldel20, q_ldel21, q_lkeep0, q_lkeep1, q_memb0, q_memb1, cat2, Nat.reduceBEq, decide_true, decide_false, decide_eq_true_eq, cond_true, cond_false, Bool.and_true, Bool.and_false, Bool.true_and, Bool.false_and, f_iadd, f_isub, f_imul, f_ishl, f_ishr, f_iushr, f_iand, f_ior, f_idiv, f_irem, f_ineg, f_i2b, f_i2s, f_ladd, f_lmul, c_eq, c_ne, c_lt, c_ge, c_gt, c_le, cc_eq, cc_ne, cc_lt, cc_ge, cc_gt, cc_le, rfo, aof, csum, Value.category, List.take, List.drop, List.reverse, List.reverseAux, List.map, List.sum_cons, List.sum_nil, List.cons_append, List.nil_append, Option.toList, List.mem_cons, List.not_mem_nil, List.length_cons, List.length_nil, reduceIte, Nat.reduceEqDiff, Nat.reduceAdd, Nat.reduceLeDiff, Nat.reduceLT, a_day, Nat.zero_ne_one, Nat.one_ne_zero, false_and, and_false, true_and, and_true, or_false, false_or, or_true, true_or, not_true_eq_false, not_false_eq_true, Nat.zero_add, Nat.add_zero, Nat.le_refl, Nat.lt_irrefl, Nat.zero_lt_succ, Nat.zero_le, forall_const, List.cons.injEq, Value.int.injEq, Value.ref.injEq, Value.long.injEq, and_assoc, exists_and_left, exists_eq_left']
      try simp only [forall_eq]
      have hM0 := hM
      obtain ⟨hW, m25, m26, m27⟩ := hM
      have hmn := hST.1
      have go61 : (∀ (hb : x.2.2.2.1 = true), ¬ S j = 59) → BX6_part_61 g Q (T_X6_takes g) (T_X6_goesOn g) (T_X6_next g) (T_X6_lays g) K45 [(0, .ref 76), (1, .int (nI pi))] [] M1 := by
        intro hn
        unfold BX6_part_61
        simp only [T_X6_goesOn, i_const, i_lconst, i_iload, i_aload, i_lload, i_istore, i_astore, i_lstore, i_iinc, i_bin, i_div, i_un, i_i2l, i_l2i, i_lbin, i_lcmp, i_if, i_icmp, i_dup, i_dup_x1, i_dup2, i_pop, i_geti, i_getr, i_getd, i_puti, i_putz, i_putd, i_iald, i_bald, i_aald, i_iast, i_bast, i_alen, i_keep, i_ret, i_retz, i_reta, i_retl, i_retv, i_callv, i_callk, i_calls, i_mm, i_copy, i_under, i_undld, i_ldcs, i_sw, q_swc0, q_swc1, q_lg0, q_lg1, q_lent0, q_lent1, lset, lset2, q_lins0, q_lins1, q_ldel0, q_ldel1, q_ldel20, q_ldel21, q_lkeep0, q_lkeep1, q_memb0, q_memb1, cat2, Nat.reduceBEq, decide_true, decide_false, decide_eq_true_eq, cond_true, cond_false, Bool.and_true, Bool.and_false, Bool.true_and, Bool.false_and, f_iadd, f_isub, f_imul, f_ishl, f_ishr, f_iushr, f_iand, f_ior, f_idiv, f_irem, f_ineg, f_i2b, f_i2s, f_ladd, f_lmul, c_eq, c_ne, c_lt, c_ge, c_gt, c_le, cc_eq, cc_ne, cc_lt, cc_ge, cc_gt, cc_le, rfo, aof, csum, Value.category, List.take, List.drop, List.reverse, List.reverseAux, List.map, List.sum_cons, List.sum_nil, List.cons_append, List.nil_append, Option.toList, List.mem_cons, List.not_mem_nil, List.length_cons, List.length_nil, reduceIte, Nat.reduceEqDiff, Nat.reduceAdd, Nat.reduceLeDiff, Nat.reduceLT, a_day, Nat.zero_ne_one, Nat.one_ne_zero, false_and, and_false, true_and, and_true, or_false, false_or, or_true, true_or, not_true_eq_false, not_false_eq_true, Nat.zero_add, Nat.add_zero, Nat.le_refl, Nat.lt_irrefl, Nat.zero_lt_succ, Nat.zero_le, forall_const, List.cons.injEq, Value.int.injEq, Value.ref.injEq, Value.long.injEq, and_assoc, exists_and_left, exists_eq_left', forall_eq]
        have hjm := hA.1
        refine ⟨(m_76 hg).1, (m_76 hg).2.1, c0, x, hM0, S j, V j, hA.2.2.2.1, by omega, fun z hz M2 hs2 hM2 => ?_, fun hz M2 hs2 => ?_⟩
        · have hjl : j < m' := hST.lt hjm (fun q => by rw [q, step_0] at hz; cases hz)
          have hA2 : AT M2 B nn m' S V j := hA.sm hs2 (fun b h1 h2 => by unfold YMb YMa; omega) (by unfold YMb YMa; omega) (fun j => by unfold YMb YMa; omega)
          have hpl := (hST.2.2.2.2 j hjl).1
          have hnx2 : nxE B nn (pl B nn j) = tkE B nn (pl B nn j) := if_pos hpl
          have h18 := hA2.2.2.1
          rw [hnx2] at h18
          have hjk' : ¬ j = k := by
            intro q
            subst q
            rw [Nat.sub_self] at hst
            simp only [stp, Option.some.injEq] at hst
            subst hst
            rcases hout with ⟨hfl, -⟩ | ⟨cs, h59, hb, -, -⟩
            · rw [hfl.1] at hz; cases hz
            · exact hn hb h59
          unfold BX6_part_65
          simp only [T_X6_next, i_const, i_lconst, i_iload, i_aload, i_lload, i_istore, i_astore, i_lstore, i_iinc, i_bin, i_div, i_un, i_i2l, i_l2i, i_lbin, i_lcmp, i_if, i_icmp, i_dup, i_dup_x1, i_dup2, i_pop, i_geti, i_getr, i_getd, i_puti, i_putz, i_putd, i_iald, i_bald, i_aald, i_iast, i_bast, i_alen, i_keep, i_ret, i_retz, i_reta, i_retl, i_retv, i_callv, i_callk, i_calls, i_mm, i_copy, i_under, i_undld, i_ldcs, i_sw, q_swc0, q_swc1, q_lg0, q_lg1, q_lent0, q_lent1, lset, lset2, q_lins0, q_lins1, q_ldel0, q_ldel1, q_ldel20, q_ldel21, q_lkeep0, q_lkeep1, q_memb0, q_memb1, cat2, Nat.reduceBEq, decide_true, decide_false, decide_eq_true_eq, cond_true, cond_false, Bool.and_true, Bool.and_false, Bool.true_and, Bool.false_and, f_iadd, f_isub, f_imul, f_ishl, f_ishr, f_iushr, f_iand, f_ior, f_idiv, f_irem, f_ineg, f_i2b, f_i2s, f_ladd, f_lmul, c_eq, c_ne, c_lt, c_ge, c_gt, c_le, cc_eq, cc_ne, cc_lt, cc_ge, cc_gt, cc_le, rfo, aof, csum, Value.category, List.take, List.drop, List.reverse, List.reverseAux, List.map, List.sum_cons, List.sum_nil, List.cons_append, List.nil_append, Option.toList, List.mem_cons, List.not_mem_nil, List.length_cons, List.length_nil, reduceIte, Nat.reduceEqDiff, Nat.reduceAdd, Nat.reduceLeDiff, Nat.reduceLT, a_day, Nat.zero_ne_one, Nat.one_ne_zero, false_and, and_false, true_and, and_true, or_false, false_or, or_true, true_or, not_true_eq_false, not_false_eq_true, Nat.zero_add, Nat.add_zero, Nat.le_refl, Nat.lt_irrefl, Nat.zero_lt_succ, Nat.zero_le, forall_const, List.cons.injEq, Value.int.injEq, Value.ref.injEq, Value.long.injEq, and_assoc, exists_and_left, exists_eq_left', forall_eq]
          refine ⟨fun _ => ⟨(m_76 hg).1, (m_76 hg).2.1, _, h18, nn, (tkE_le hpl).2, hnn, hA2.2.2.2.2.2, fun M3 hs3 h17 h18' t1 t2 => ?_⟩, fun q => absurd (by decide) q⟩
          rw [hA2.2.2.2.2.1] at h17 h18' t1 t2
          have hA3 := hA2.nx hST hjl hs3 h17 h18' t1 t2
          refine hK45 (m' - (j + 1)) _ _ _ (by omega) ?_
          rw [hI45]
          have hlen := step_len hz
          refine ⟨j + 1, z, k, y, rfl, rfl, rfl, hA3, hM2.to hs3, (hs.tr (hs2.mono fun _ _ q => Or.inl q)).tr (hs3.mono fun _ _ q => Or.inr (Or.inl q)), ?_, by omega, by omega, by omega, ?_, hout⟩
          · rw [hs3 _ _ (by unfold YN; omega), hs2 _ _ (by unfold YMb YMa; omega)]; exact h85
          · rw [show k - j = (k - (j + 1)) + 1 by omega] at hst
            simp only [stp, hz] at hst
            exact hst
        · unfold BX6_part_65
          simp only [i_const, i_lconst, i_iload, i_aload, i_lload, i_istore, i_astore, i_lstore, i_iinc, i_bin, i_div, i_un, i_i2l, i_l2i, i_lbin, i_lcmp, i_if, i_icmp, i_dup, i_dup_x1, i_dup2, i_pop, i_geti, i_getr, i_getd, i_puti, i_putz, i_putd, i_iald, i_bald, i_aald, i_iast, i_bast, i_alen, i_keep, i_ret, i_retz, i_reta, i_retl, i_retv, i_callv, i_callk, i_calls, i_mm, i_copy, i_under, i_undld, i_ldcs, i_sw, q_swc0, q_swc1, q_lg0, q_lg1, q_lent0, q_lent1, lset, lset2, q_lins0, q_lins1, q_ldel0, q_ldel1, q_ldel20, q_ldel21, q_lkeep0, q_lkeep1, q_memb0, q_memb1, cat2, Nat.reduceBEq, decide_true, decide_false, decide_eq_true_eq, cond_true, cond_false, Bool.and_true, Bool.and_false, Bool.true_and, Bool.false_and, f_iadd, f_isub, f_imul, f_ishl, f_ishr, f_iushr, f_iand, f_ior, f_idiv, f_irem, f_ineg, f_i2b, f_i2s, f_ladd, f_lmul, c_eq, c_ne, c_lt, c_ge, c_gt, c_le, cc_eq, cc_ne, cc_lt, cc_ge, cc_gt, cc_le, rfo, aof, csum, Value.category, List.take, List.drop, List.reverse, List.reverseAux, List.map, List.sum_cons, List.sum_nil, List.cons_append, List.nil_append, Option.toList, List.mem_cons, List.not_mem_nil, List.length_cons, List.length_nil, reduceIte, Nat.reduceEqDiff, Nat.reduceAdd, Nat.reduceLeDiff, Nat.reduceLT, a_day, Nat.zero_ne_one, Nat.one_ne_zero, false_and, and_false, true_and, and_true, or_false, false_or, or_true, true_or, not_true_eq_false, not_false_eq_true, Nat.zero_add, Nat.add_zero, Nat.le_refl, Nat.lt_irrefl, Nat.zero_lt_succ, Nat.zero_le, forall_const, List.cons.injEq, Value.int.injEq, Value.ref.injEq, Value.long.injEq, and_assoc, exists_and_left, exists_eq_left', forall_eq]
          have hjk' : j = k := by
            rcases Nat.eq_or_lt_of_le hjk with q | q
            · exact q
            · rw [show k - j = (k - (j + 1)) + 1 by omega] at hst
              simp only [stp, hz] at hst
              cases hst
          subst hjk'
          rw [Nat.sub_self] at hst
          simp only [stp, Option.some.injEq] at hst
          subst hst
          refine ⟨fun q => q.elim, ?_⟩
          rcases hout with ⟨hfl, hQ⟩ | ⟨cs, h59, hb, -, -⟩
          · refine hQ M2 (hs.tr (hs2.mono fun _ _ q => Or.inl q)) ?_
            rw [hs2 _ _ (by unfold YMb YMa; omega)]; exact hA.2.1
          · exact absurd h59 (hn hb)
      have go77 : x.2.2.2.1 = true → S j = 59 → BX6_part_77 g Q (T_X6_takes g) (T_X6_goesOn g) (T_X6_next g) (T_X6_lays g) K45 [(0, .ref 76), (1, .int (nI pi))] [] M1 := by
        intro hb h59
        have hjk' : j = k := by
          rcases Nat.eq_or_lt_of_le hjk with q | q
          · exact q
          · rw [show k - j = (k - (j + 1)) + 1 by omega] at hst
            simp only [stp, h59, step_59 hb] at hst
            cases hst
        subst hjk'
        rw [Nat.sub_self] at hst
        simp only [stp, Option.some.injEq] at hst
        subst hst
        have hjl : j < m' := hST.lt hA.1 (by rw [h59]; decide)
        unfold BX6_part_77
        simp only [T_X6_lays, i_const, i_lconst, i_iload, i_aload, i_lload, i_istore, i_astore, i_lstore, i_iinc, i_bin, i_div, i_un, i_i2l, i_l2i, i_lbin, i_lcmp, i_if, i_icmp, i_dup, i_dup_x1, i_dup2, i_pop, i_geti, i_getr, i_getd, i_puti, i_putz, i_putd, i_iald, i_bald, i_aald, i_iast, i_bast, i_alen, i_keep, i_ret, i_retz, i_reta, i_retl, i_retv, i_callv, i_callk, i_calls, i_mm, i_copy, i_under, i_undld, i_ldcs, i_sw, q_swc0, q_swc1, q_lg0, q_lg1, q_lent0, q_lent1, lset, lset2, q_lins0, q_lins1, q_ldel0, q_ldel1, q_ldel20, q_ldel21, q_lkeep0, q_lkeep1, q_memb0, q_memb1, cat2, Nat.reduceBEq, decide_true, decide_false, decide_eq_true_eq, cond_true, cond_false, Bool.and_true, Bool.and_false, Bool.true_and, Bool.false_and, f_iadd, f_isub, f_imul, f_ishl, f_ishr, f_iushr, f_iand, f_ior, f_idiv, f_irem, f_ineg, f_i2b, f_i2s, f_ladd, f_lmul, c_eq, c_ne, c_lt, c_ge, c_gt, c_le, cc_eq, cc_ne, cc_lt, cc_ge, cc_gt, cc_le, rfo, aof, csum, Value.category, List.take, List.drop, List.reverse, List.reverseAux, List.map, List.sum_cons, List.sum_nil, List.cons_append, List.nil_append, Option.toList, List.mem_cons, List.not_mem_nil, List.length_cons, List.length_nil, reduceIte, Nat.reduceEqDiff, Nat.reduceAdd, Nat.reduceLeDiff, Nat.reduceLT, a_day, Nat.zero_ne_one, Nat.one_ne_zero, false_and, and_false, true_and, and_true, or_false, false_or, or_true, true_or, not_true_eq_false, not_false_eq_true, Nat.zero_add, Nat.add_zero, Nat.le_refl, Nat.lt_irrefl, Nat.zero_lt_succ, Nat.zero_le, forall_const, List.cons.injEq, Value.int.injEq, Value.ref.injEq, Value.long.injEq, and_assoc, exists_and_left, exists_eq_left', forall_eq]
        refine ⟨(m_76 hg).1, (m_76 hg).2.1, 1, rfl, by decide, by decide, c0, _, _, hW, fun M2 hs2 hM2 => ?_⟩
        have hA2 : AT M2 B nn m' S V j := hA.sm hs2 (fun b h1 h2 => by unfold YMa; omega) (by unfold YMa; omega) (fun j => by unfold YMa; omega)
        have hsq : Sm (YQ pi c0) M M2 := hs.tr (hs2.mono fun _ _ q => Or.inl (Or.inl q))
        unfold BX6_part_82
        simp only [T_X6_next, i_const, i_lconst, i_iload, i_aload, i_lload, i_istore, i_astore, i_lstore, i_iinc, i_bin, i_div, i_un, i_i2l, i_l2i, i_lbin, i_lcmp, i_if, i_icmp, i_dup, i_dup_x1, i_dup2, i_pop, i_geti, i_getr, i_getd, i_puti, i_putz, i_putd, i_iald, i_bald, i_aald, i_iast, i_bast, i_alen, i_keep, i_ret, i_retz, i_reta, i_retl, i_retv, i_callv, i_callk, i_calls, i_mm, i_copy, i_under, i_undld, i_ldcs, i_sw, q_swc0, q_swc1, q_lg0, q_lg1, q_lent0, q_lent1, lset, lset2, q_lins0, q_lins1, q_ldel0, q_ldel1, q_ldel20, q_ldel21, q_lkeep0, q_lkeep1, q_memb0, q_memb1, cat2, Nat.reduceBEq, decide_true, decide_false, decide_eq_true_eq, cond_true, cond_false, Bool.and_true, Bool.and_false, Bool.true_and, Bool.false_and, f_iadd, f_isub, f_imul, f_ishl, f_ishr, f_iushr, f_iand, f_ior, f_idiv, f_irem, f_ineg, f_i2b, f_i2s, f_ladd, f_lmul, c_eq, c_ne, c_lt, c_ge, c_gt, c_le, cc_eq, cc_ne, cc_lt, cc_ge, cc_gt, cc_le, rfo, aof, csum, Value.category, List.take, List.drop, List.reverse, List.reverseAux, List.map, List.sum_cons, List.sum_nil, List.cons_append, List.nil_append, Option.toList, List.mem_cons, List.not_mem_nil, List.length_cons, List.length_nil, reduceIte, Nat.reduceEqDiff, Nat.reduceAdd, Nat.reduceLeDiff, Nat.reduceLT, a_day, Nat.zero_ne_one, Nat.one_ne_zero, false_and, and_false, true_and, and_true, or_false, false_or, or_true, true_or, not_true_eq_false, not_false_eq_true, Nat.zero_add, Nat.add_zero, Nat.le_refl, Nat.lt_irrefl, Nat.zero_lt_succ, Nat.zero_le, forall_const, List.cons.injEq, Value.int.injEq, Value.ref.injEq, Value.long.injEq, and_assoc, exists_and_left, exists_eq_left', forall_eq]
        rw [hM2.1]
        rcases hout with ⟨hfl, hQ⟩ | ⟨cs, -, -, hlay, hQ⟩
        · have hne := hfl.2 h59 hb
          have hl0 : 0 < (lay 1 x.1 x.2.1).2.length := List.length_pos_iff.mpr hne
          have hl9 := hM2.2.2.2.2.2.1
          exact ⟨m_76 hg, fun q => absurd q (nI_nle hl0 (by omega)), fun _ => hQ M2 hsq hA2.2.1⟩
        · have hM2' := hM2
          rw [hlay] at hM2'
          obtain ⟨b1, b2, b3, b4, b5, b6, b7⟩ := hM2'
          simp only at b1 b4 b5 b6
          have e85 : M2 85 pi = nI c0 := by rw [hs2 _ _ (by unfold YMa; omega)]; exact h85
          have hl9 : cs.length ≤ 160 := by simp at b6; exact b6
          rw [hlay, nI_clamp (by omega), e85, b4, pk_sub (by omega), Nat.add_sub_cancel_left]
          have hpl := (hST.2.2.2.2 j hjl).1
          have hnx2 : nxE B nn (pl B nn j) = tkE B nn (pl B nn j) := if_pos hpl
          have hs3 : Sm (fun a b => a = 86 ∧ b = pi) M2 (mset M2 86 pi (nI cs.length)) := Sm.rf.set _ ⟨rfl, rfl⟩
          have hA3 : AT (mset M2 86 pi (nI cs.length)) B nn m' S V j := hA2.sm hs3 (fun b h1 h2 => by omega) (by omega) (fun j => by omega)
          have h18 := hA3.2.2.1
          rw [hnx2] at h18
          refine ⟨m_76 hg, fun _ => ⟨m_76 hg, m_76 hg, m_76 hg, m_85 hg, vm l_85 hpi (by decide), m_86 hg, vm l_86 hpi (by decide), (m_76 hg).1, (m_76 hg).2.1, _, h18, nn, (tkE_le hpl).2, hnn, hA3.2.2.2.2.2, fun M4 hs4 h17 h18' t1 t2 => ?_⟩, fun q => absurd (show nI 0 ≤ 0 by decide) q⟩
          rw [hA3.2.2.2.2.1] at h17 h18' t1 t2
          have hA4 := hA3.nx hST hjl hs4 h17 h18' t1 t2
          refine hQ M4 ((hsq.tr (hs3.mono fun a b q => Or.inr (Or.inr ⟨Or.inr q.1, q.2⟩))).tr (hs4.mono fun _ _ q => Or.inr (Or.inl q))) hA4 ⟨?_, ?_, fun t x ht => ?_⟩ hl9 ?_
          · rw [hs4 _ _ (by unfold YN; omega), ms_q (by decide)]; exact e85
          · rw [hs4 _ _ (by unfold YN; omega), ms_s]
          · rw [hs4 _ _ (by unfold YN; omega), ms_q (by decide)]; exact b5 t x ht
          · rw [hs4 _ _ (by unfold YN; omega), ms_q (by decide)]; exact b4
      rw [m26, hA.2.2.2.1.sign (x := 59) (by simp)]
      refine ⟨m_76 hg, fun z => ?_, fun z => ⟨m_76 hg, fun u => ?_, fun u => ?_⟩⟩
      · subst hB61; exact go61 (fun hb => absurd hb (b2n z))
      · subst hB77; exact go77 (b2t z) u
      · subst hB61; exact go61 (fun _ => u)
      
    refine s_of (fun lv st M0 hs => ?_) (WX6_part_0 C (t_X6_takes hg) (by decide) (t_X6_goesOn hg) (by decide) (t_X6_next hg) (by decide) (t_X6_lays hg) (by decide) L45)
    obtain ⟨rfl, rfl, rfl⟩ := hs
    unfold BX6_part_0
    generalize hB5 : BX6_part_5 g Q (T_X6_takes g) (T_X6_goesOn g) (T_X6_next g) (T_X6_lays g) E45 = B5
    simp only [T_X6_takes, T_X6_goesOn, T_X6_next, T_X6_lays, i_const, i_lconst, i_iload, i_aload, i_lload, i_istore, i_astore, i_lstore, i_iinc, i_bin, i_div, i_un, i_i2l, i_l2i, i_lbin, i_lcmp, i_if, i_icmp, i_dup, i_dup_x1, i_dup2, i_pop, i_geti, i_getr, i_getd, i_puti, i_putz, i_putd, i_iald, i_bald, i_aald, i_iast, i_bast, i_alen, i_keep, i_ret, i_retz, i_reta, i_retl, i_retv, i_callv, i_callk, i_calls, i_mm, i_copy, i_under, i_undld, i_ldcs, i_sw, q_swc0, q_swc1, q_lg0, q_lg1, q_lent0, q_lent1, lset, lset2, q_lins0, q_lins1, q_ldel0, q_ldel1, q_ldel20, q_ldel21, q_lkeep0, q_lkeep1, q_memb0, q_memb1, cat2, Nat.reduceBEq, decide_true, decide_false, decide_eq_true_eq, cond_true, cond_false, Bool.and_true, Bool.and_false, Bool.true_and, Bool.false_and, f_iadd, f_isub, f_imul, f_ishl, f_ishr, f_iushr, f_iand, f_ior, f_idiv, f_irem, f_ineg, f_i2b, f_i2s, f_ladd, f_lmul, c_eq, c_ne, c_lt, c_ge, c_gt, c_le, cc_eq, cc_ne, cc_lt, cc_ge, cc_gt, cc_le, rfo, aof, csum, Value.category, List.take, List.drop, List.reverse, List.reverseAux, List.map, List.sum_cons, List.sum_nil, List.cons_append, List.nil_append, Option.toList, List.mem_cons, List.not_mem_nil, List.length_cons, List.length_nil, reduceIte, Nat.reduceEqDiff, Nat.reduceAdd, Nat.reduceLeDiff, Nat.reduceLT, a_day, Nat.zero_ne_one, Nat.one_ne_zero, false_and, and_false, true_and, and_true, or_false, false_or, or_true, true_or, not_true_eq_false, not_false_eq_true, Nat.zero_add, Nat.add_zero, Nat.le_refl, Nat.lt_irrefl, Nat.zero_lt_succ, Nat.zero_le, forall_const, List.cons.injEq, Value.int.injEq, Value.ref.injEq, Value.long.injEq, and_assoc, exists_and_left, exists_eq_left']
    try simp only [forall_eq]
    rw [hB]
    have hmn := hST.1
    have him := hAT.1
    have hple := pl_le B nn i
    have hnx : nxE B nn (pl B nn i) ≤ nn := by
      unfold nxE
      split
      · exact (tkE_le (by assumption)).2
      · exact Nat.le_refl _
    refine ⟨(m_76 hg).1, (m_76 hg).2.1, S i, V i, 6 + q, rfl, hAT.2.2.2.1, by omega, by omega, _, hAT.2.2.1, nn, hnx, hnn, hAT.2.2.2.2.2, fun hne => ?_, fun heq M1 hs1 h17 h18 t1 t2 => ?_⟩
    · rw [show 6 + q - 2 = 4 + q by omega] at hne
      subst hB5
      unfold BX6_part_5
      simp only [T_X6_takes, T_X6_goesOn, T_X6_next, T_X6_lays, i_const, i_lconst, i_iload, i_aload, i_lload, i_istore, i_astore, i_lstore, i_iinc, i_bin, i_div, i_un, i_i2l, i_l2i, i_lbin, i_lcmp, i_if, i_icmp, i_dup, i_dup_x1, i_dup2, i_pop, i_geti, i_getr, i_getd, i_puti, i_putz, i_putd, i_iald, i_bald, i_aald, i_iast, i_bast, i_alen, i_keep, i_ret, i_retz, i_reta, i_retl, i_retv, i_callv, i_callk, i_calls, i_mm, i_copy, i_under, i_undld, i_ldcs, i_sw, q_swc0, q_swc1, q_lg0, q_lg1, q_lent0, q_lent1, lset, lset2, q_lins0, q_lins1, q_ldel0, q_ldel1, q_ldel20, q_ldel21, q_lkeep0, q_lkeep1, q_memb0, q_memb1, cat2, Nat.reduceBEq, decide_true, decide_false, decide_eq_true_eq, cond_true, cond_false, Bool.and_true, Bool.and_false, Bool.true_and, Bool.false_and, f_iadd, f_isub, f_imul, f_ishl, f_ishr, f_iushr, f_iand, f_ior, f_idiv, f_irem, f_ineg, f_i2b, f_i2s, f_ladd, f_lmul, c_eq, c_ne, c_lt, c_ge, c_gt, c_le, cc_eq, cc_ne, cc_lt, cc_ge, cc_gt, cc_le, rfo, aof, csum, Value.category, List.take, List.drop, List.reverse, List.reverseAux, List.map, List.sum_cons, List.sum_nil, List.cons_append, List.nil_append, Option.toList, List.mem_cons, List.not_mem_nil, List.length_cons, List.length_nil, reduceIte, Nat.reduceEqDiff, Nat.reduceAdd, Nat.reduceLeDiff, Nat.reduceLT, a_day, Nat.zero_ne_one, Nat.one_ne_zero, false_and, and_false, true_and, and_true, or_false, false_or, or_true, true_or, not_true_eq_false, not_false_eq_true, Nat.zero_add, Nat.add_zero, Nat.le_refl, Nat.lt_irrefl, Nat.zero_lt_succ, Nat.zero_le, forall_const, List.cons.injEq, Value.int.injEq, Value.ref.injEq, Value.long.injEq, and_assoc, exists_and_left, exists_eq_left']
      try simp only [forall_eq]
      rcases hor with ⟨k, hPF, hQ⟩ | ⟨j, cs, hPG, -⟩
      · rcases hPF with ⟨rfl, -⟩ | ⟨h4, -⟩
        · exact ⟨fun z => z.elim, hQ M0 Sm.rf hAT.2.1⟩
        · exact absurd h4 hne
      · exact absurd hPG.1 hne
    · rw [show 6 + q - 2 = 4 + q by omega] at heq
      have hil : i < m' := by
        rcases Nat.lt_or_ge i m' with w | w
        · exact w
        · have : i = m' := by omega
          rw [this, hST.2.2.1] at heq
          exact absurd heq (fun z => absurd ((nI_eq (a := 0) (b := 4 + q) (by decide) (by omega)).mp z) (by omega))
      have hpl := (hST.2.2.2.2 i hil).1
      have hnx2 : nxE B nn (pl B nn i) = tkE B nn (pl B nn i) := if_pos hpl
      rw [hnx2] at h17 h18 t1 t2
      have hA1 := hAT.nx hST hil hs1 h17 h18 t1 t2
      subst hB5
      unfold BX6_part_5
      simp only [T_X6_takes, T_X6_goesOn, T_X6_next, T_X6_lays, i_const, i_lconst, i_iload, i_aload, i_lload, i_istore, i_astore, i_lstore, i_iinc, i_bin, i_div, i_un, i_i2l, i_l2i, i_lbin, i_lcmp, i_if, i_icmp, i_dup, i_dup_x1, i_dup2, i_pop, i_geti, i_getr, i_getd, i_puti, i_putz, i_putd, i_iald, i_bald, i_aald, i_iast, i_bast, i_alen, i_keep, i_ret, i_retz, i_reta, i_retl, i_retv, i_callv, i_callk, i_calls, i_mm, i_copy, i_under, i_undld, i_ldcs, i_sw, q_swc0, q_swc1, q_lg0, q_lg1, q_lent0, q_lent1, lset, lset2, q_lins0, q_lins1, q_ldel0, q_ldel1, q_ldel20, q_ldel21, q_lkeep0, q_lkeep1, q_memb0, q_memb1, cat2, Nat.reduceBEq, decide_true, decide_false, decide_eq_true_eq, cond_true, cond_false, Bool.and_true, Bool.and_false, Bool.true_and, Bool.false_and, f_iadd, f_isub, f_imul, f_ishl, f_ishr, f_iushr, f_iand, f_ior, f_idiv, f_irem, f_ineg, f_i2b, f_i2s, f_ladd, f_lmul, c_eq, c_ne, c_lt, c_ge, c_gt, c_le, cc_eq, cc_ne, cc_lt, cc_ge, cc_gt, cc_le, rfo, aof, csum, Value.category, List.take, List.drop, List.reverse, List.reverseAux, List.map, List.sum_cons, List.sum_nil, List.cons_append, List.nil_append, Option.toList, List.mem_cons, List.not_mem_nil, List.length_cons, List.length_nil, reduceIte, Nat.reduceEqDiff, Nat.reduceAdd, Nat.reduceLeDiff, Nat.reduceLT, a_day, Nat.zero_ne_one, Nat.one_ne_zero, false_and, and_false, true_and, and_true, or_false, false_or, or_true, true_or, not_true_eq_false, not_false_eq_true, Nat.zero_add, Nat.add_zero, Nat.le_refl, Nat.lt_irrefl, Nat.zero_lt_succ, Nat.zero_le, forall_const, List.cons.injEq, Value.int.injEq, Value.ref.injEq, Value.long.injEq, and_assoc, exists_and_left, exists_eq_left']
      try simp only [forall_eq]
      rw [nI_clamp (by omega)]
      refine ⟨fun _ => ⟨m_76 hg, m_76 hg, m_85 hg, vm l_85 hpi (by decide), m_76 hg, m_76 hg, m_76 hg, m_76 hg, m_76 hg, iE45 (m' - (i + 1)) _ _ _ ?_⟩, fun z => absurd (by decide) z⟩
      have e16 : M1 76 16 = nI c0 := by rw [hs1 _ _ (by unfold YN; omega)]; exact h16
      rw [e16, hI45]
      have hs2 : Sm (fun a b => (a = 85 ∧ b = pi) ∨ (a = 76 ∧ 23 ≤ b ∧ b ≤ 27)) M1 (mset (mset (mset (mset (mset (mset M1 85 pi (nI c0)) 76 23 0) 76 24 0) 76 25 0) 76 26 0) 76 27 1) := by
        refine (((((Sm.rf.set _ ?_).set _ ?_).set _ ?_).set _ ?_).set _ ?_).set _ ?_
        · exact Or.inl ⟨rfl, rfl⟩
        all_goals exact Or.inr ⟨rfl, by decide, by decide⟩
      have hA2 := hA1.sm hs2 (fun b h1 h2 => by omega) (by omega) (fun j => by omega)
      have hMS : MSt (mset (mset (mset (mset (mset (mset M1 85 pi (nI c0)) 76 23 0) 76 24 0) 76 25 0) 76 26 0) 76 27 1) c0 ([], [], false, false, true) := by
        refine ⟨⟨?_, trivial, ?_, ?_, fun t x ht => by simp at ht, by decide, hc0⟩, ?_, ?_, ?_⟩
        · rw [ms_j (by decide), ms_j (by decide), ms_j (by decide), ms_j (by decide), ms_s]; rfl
        · rw [ms_j (by decide), ms_j (by decide), ms_j (by decide), ms_s]; rfl
        · rw [hs2 _ _ (by omega)]; exact e16
        · rw [ms_j (by decide), ms_j (by decide), ms_s]; rfl
        · rw [ms_j (by decide), ms_s]; rfl
        · rw [ms_s]; rfl
      have h85 : mset (mset (mset (mset (mset (mset M1 85 pi (nI c0)) 76 23 0) 76 24 0) 76 25 0) 76 26 0) 76 27 1 85 pi = nI c0 := by
        rw [ms_q (by decide), ms_q (by decide), ms_q (by decide), ms_q (by decide), ms_q (by decide), ms_s]
      have hs3 : Sm (YQ pi c0) M0 (mset (mset (mset (mset (mset (mset M1 85 pi (nI c0)) 76 23 0) 76 24 0) 76 25 0) 76 26 0) 76 27 1) := by
        refine (hs1.mono fun _ _ z => Or.inr (Or.inl z)).tr (hs2.mono fun a b z => ?_)
        unfold YMb YMa YN
        omega
      rcases hor with ⟨k, hPF, hQ⟩ | ⟨j, cs, hPG, hQ⟩
      · rcases hPF with ⟨-, h4⟩ | ⟨-, hik, y, hst, hfl⟩
        · exact absurd heq h4
        · exact ⟨i + 1, _, k, y, rfl, rfl, rfl, hA2, hMS, hs3, h85, Nat.le_refl _, Nat.zero_le _, hik, hst, Or.inl ⟨hfl, hQ⟩⟩
      · obtain ⟨-, j0, y, rfl, hij, hst, hb, hlay, h59⟩ := hPG
        exact ⟨i + 1, _, j0, y, rfl, rfl, rfl, hA2, hMS, hs3, h85, Nat.le_refl _, Nat.zero_le _, hij, hst, Or.inr ⟨cs, h59, hb, hlay, hQ⟩⟩
