/-! ===== what was told of days: the model ===== -/
def wrg (X : XV) (D : DV) (c : Nat → Int32) : Nat → Nat → Int32
  | 0, _ => -1
  | m + 1, i => if wor X (pasN X D i) = c i then wrg X D c m (i + 1) else nI i
def soB (X : XV) (F : Nat → DV) (c : Nat → Int32) (n v : Nat) : Bool := decide (wrg X (F v) c n 0 = -1)
/-- how many, and the least, of those from a number on -/
def cnt (p : Nat → Bool) : Nat → Nat → Nat
  | 0, _ => 0
  | m + 1, v => (if p v then 1 else 0) + cnt p m (v + 1)
def lea (p : Nat → Bool) : Nat → Nat → Int32
  | 0, _ => -1
  | m + 1, v => if p v then nI v else lea p m (v + 1)
def telF (D : DV) (a s : Nat) (v : Nat) : DV := if a = 0 then upF D 7 2 (nI (8 + 4 * v)) else if a = 1 then upF D 1 s (nI v) else if a = 2 then upF D 2 s (nI v) else if a = 5 then shfD D s v else upF D 5 s (nI v)
def telN (X : XV) (D : DV) (T : Nat) (c : Nat → Int32) (n k : Nat) : Int32 :=
  if k = 0 then wrg X D c n 0 else if k = 1 then nI (bsum (soB X (telF D 0 0) c n) T) else if k / 10 = 1 then nI (bsum (soB X (telF D 1 (k % 10)) c n) 6) else if k / 10 = 2 then nI (bsum (soB X (telF D 2 (k % 10)) c n) 10)
  else if k / 10 = 3 then nI (cnt (soB X (telF D 3 (k % 10)) c n) 100 0) else if k / 10 = 4 then lea (soB X (telF D 4 (k % 10)) c n) 100 0 else nI (bsum (soB X (telF D 5 (k % 10)) c n) 16)
def telOK (D : DV) (w : Int32) : Prop := (0 ≤ w ∧ w ≤ 1) ∨ ((10 ≤ w ∧ w ≤ 59) ∧ (0 ≤ w - w / 10 * 10 ∧ w - w / 10 * 10 < nI (dn D)))
def telA (X : XV) (D : DV) (T : Nat) (srt siz : Nat → Int32) (cel : Nat → Nat → Int32) (sh w : Int32) : Int32 :=
  if ¬ (0 ≤ sh ∧ sh ≤ 3) then -2 else if (0 ≤ w ∧ w ≤ 1) ∨ ((10 ≤ w ∧ w ≤ 59) ∧ (0 ≤ w - w / 10 * 10 ∧ w - w / 10 * 10 < nI (dn D))) then (if srt sh.toNatClampNeg < 0 then -11 else telN X D T (cel sh.toNatClampNeg) (siz sh.toNatClampNeg).toNatClampNeg w.toNatClampNeg) else -2
def T_X6_wrong (g : WG) (as : List Value) (M : MM) (Q : Option Value → MM → Prop) : Prop := ∃ i n, as = [.ref 76, .int (nI i)] ∧ i < 4 ∧ okM M ∧ zM M ∧ M 100 i = nI n ∧ n ≤ 40 ∧ ∀ M', Sm YS M M' → Q (some (.int (wrg (xm M) (dm M) (fun j => M 101 (40 * i + j)) n 0))) M'
set_option maxRecDepth 100000 in
set_option maxHeartbeats 2000000 in
theorem t_X6_wrong {l : Launch} {g : WG} (hg : Full g) : Ct l g yX6_wrong cX6_wrong 4 ((Option.some FieldType.int)) 8 (T_X6_wrong g) := by
  refine Ct.of (by decide) (fun as M Q h => ?_) (fun p e s m args below meth c as M Q h C => ?_)
  · obtain ⟨i, nn, rfl, hi, ho, hz, hsz, h40, h⟩ := h; exact ⟨by simp, by simp [Value.category]⟩
  · obtain ⟨i, nn, rfl, hi, ho, hz, hsz, h40, h⟩ := h
    have hn := ho.n
    obtain ⟨Tn, hwf, htx, h9⟩ := id ho
    obtain ⟨D, hDe⟩ : ∃ D, dm M = D := ⟨_, rfl⟩
    obtain ⟨X, hXe⟩ : ∃ X, xm M = X := ⟨_, rfl⟩
    obtain ⟨c0, hc0⟩ : ∃ c0, (fun j => M 101 (40 * i + j)) = c0 := ⟨_, rfl⟩
    rw [hDe] at hn hwf
    rw [hDe, hXe, hc0] at h
    have key : ∀ M' : MM, Sm YR M M' → ∀ i, dm M' = pasN X D i → okM M' ∧ xm M' = X := by
      intro M' hs i hd
      obtain ⟨a, b⟩ := okM.to hs hd (wfD_pasN hwf i) htx h9 (by unfold YR; omega) (fun a b _ _ => by unfold YR; omega)
      exact ⟨a, b.trans hXe⟩
    obtain ⟨I8, hI8⟩ : ∃ I : Nat → PP, I = (fun n lv st M' => ∃ k f, lv = [(0, .ref 76), (1, .int (nI i)), (2, .int f), (3, .int (nI k))] ∧ st = [] ∧ k ≤ nn ∧ n = nn - k ∧ Sm YR M M' ∧ dm M' = pasN X D (k - 1) ∧ M' 76 32 = M 76 0 ∧ (∀ s, s < 7 → M' 93 s = M 82 s ∧ M' 94 s = M 83 s) ∧ (f = -1 → wrg X D c0 (nn - k) k = wrg X D c0 nn 0) ∧ (¬ f = -1 → f = wrg X D c0 nn 0)) := ⟨_, rfl⟩
    obtain ⟨E8, hE8⟩ : ∃ E : PP, E = (fun lv st M => ∃ n, I8 n lv st M) := ⟨_, rfl⟩
    have iE8 : ∀ n lv st M, I8 n lv st M → E8 lv st M := fun n lv st M h => by rw [hE8]; exact ⟨n, h⟩
    have L8 : Sj p l e 8 s m args below meth c 4 g (MQ below (cQc g Q) args s 0 0 (gA g)) 8 E8 := by
      rw [hE8]
      refine s_ex (s_loop I8 (fun K8 k8 => WX6_wrong_8 C (t_X6_keeps hg) (by decide) (t_X6_passes hg) (by decide) (t_X6_worth hg) (by decide) (t_X6_again hg) (by decide) k8) ?_)
      intro n lv st M1 K8 hK8 hI; rw [hI8] at hI; obtain ⟨k, f, rfl, rfl, hk, rfl, hs, hd, h32, hv, hf1, hf2⟩ := hI
      unfold BX6_wrong_8
      generalize hB31 : BX6_wrong_31 g Q (T_X6_keeps g) (T_X6_passes g) (T_X6_worth g) (T_X6_again g) K8 = B31
      generalize hB32 : BX6_wrong_32 g Q (T_X6_keeps g) (T_X6_passes g) (T_X6_worth g) (T_X6_again g) K8 = B32
      generalize hB58 : BX6_wrong_58 g Q (T_X6_keeps g) (T_X6_passes g) (T_X6_worth g) (T_X6_again g) K8 = B58
      simp only [T_X6_keeps, T_X6_passes, T_X6_worth, T_X6_again, i_const, i_lconst, i_iload, i_aload, i_lload, i_istore, i_astore, i_lstore, i_iinc, i_bin, i_div, i_un, i_i2l, i_l2i, i_lbin, i_lcmp, i_if, i_icmp, i_dup, i_dup_x1, i_dup2, i_pop, i_geti, i_getr, i_getd, i_puti, i_putz, i_putd, i_iald, i_bald, i_aald, i_iast, i_bast, i_alen, i_keep, i_ret, i_retz, i_reta, i_retl, i_retv, i_callv, i_callk, i_calls, i_mm, i_copy, i_under, i_undld, i_ldcs, i_sw, q_swc0, q_swc1, q_lg0, q_lg1, q_lent0, q_lent1, lset, lset2, q_lins0, q_lins1, q_ldel0, q_ldel1, q_ldel20, q_ldel21, q_lkeep0, q_lkeep1, q_memb0, q_memb1, cat2, Nat.reduceBEq, decide_true, decide_false, decide_eq_true_eq, cond_true, cond_false, Bool.and_true, Bool.and_false, Bool.true_and, Bool.false_and, f_iadd, f_isub, f_imul, f_ishl, f_ishr, f_iushr, f_iand, f_ior, f_idiv, f_irem, f_ineg, f_i2b, f_i2s, f_ladd, f_lmul, c_eq, c_ne, c_lt, c_ge, c_gt, c_le, cc_eq, cc_ne, cc_lt, cc_ge, cc_gt, cc_le, rfo, aof, csum, Value.category, List.take, List.drop, List.reverse, List.reverseAux, List.map, List.sum_cons, List.sum_nil, List.cons_append, List.nil_append, Option.toList, List.mem_cons, List.not_mem_nil, List.length_cons, List.length_nil, reduceIte, Nat.reduceEqDiff, Nat.reduceAdd, Nat.reduceLeDiff, Nat.reduceLT, a_day, Nat.zero_ne_one, Nat.one_ne_zero, false_and, and_false, true_and, and_true, or_false, false_or, or_true, true_or, not_true_eq_false, not_false_eq_true, Nat.zero_add, Nat.add_zero, Nat.le_refl, Nat.lt_irrefl, Nat.zero_lt_succ, Nat.zero_le, forall_const, List.cons.injEq, Value.int.injEq, Value.ref.injEq, Value.long.injEq, and_assoc, exists_and_left, exists_eq_left']
      try simp only [forall_eq]
      obtain ⟨ko, kx⟩ := key M1 hs _ hd
      have f100 : M1 100 i = nI nn := by rw [hs _ _ (by unfold YR; omega)]; exact hsz
      have fin : (f = -1 → k = nn) → BX6_wrong_58 g Q (T_X6_keeps g) (T_X6_passes g) (T_X6_worth g) (T_X6_again g) K8 [(0, .ref 76), (1, .int (nI i)), (2, .int f), (3, .int (nI k))] [] M1 := by
        intro hfk
        unfold BX6_wrong_58
        simp only [T_X6_again, i_const, i_lconst, i_iload, i_aload, i_lload, i_istore, i_astore, i_lstore, i_iinc, i_bin, i_div, i_un, i_i2l, i_l2i, i_lbin, i_lcmp, i_if, i_icmp, i_dup, i_dup_x1, i_dup2, i_pop, i_geti, i_getr, i_getd, i_puti, i_putz, i_putd, i_iald, i_bald, i_aald, i_iast, i_bast, i_alen, i_keep, i_ret, i_retz, i_reta, i_retl, i_retv, i_callv, i_callk, i_calls, i_mm, i_copy, i_under, i_undld, i_ldcs, i_sw, q_swc0, q_swc1, q_lg0, q_lg1, q_lent0, q_lent1, lset, lset2, q_lins0, q_lins1, q_ldel0, q_ldel1, q_ldel20, q_ldel21, q_lkeep0, q_lkeep1, q_memb0, q_memb1, cat2, Nat.reduceBEq, decide_true, decide_false, decide_eq_true_eq, cond_true, cond_false, Bool.and_true, Bool.and_false, Bool.true_and, Bool.false_and, f_iadd, f_isub, f_imul, f_ishl, f_ishr, f_iushr, f_iand, f_ior, f_idiv, f_irem, f_ineg, f_i2b, f_i2s, f_ladd, f_lmul, c_eq, c_ne, c_lt, c_ge, c_gt, c_le, cc_eq, cc_ne, cc_lt, cc_ge, cc_gt, cc_le, rfo, aof, csum, Value.category, List.take, List.drop, List.reverse, List.reverseAux, List.map, List.sum_cons, List.sum_nil, List.cons_append, List.nil_append, Option.toList, List.mem_cons, List.not_mem_nil, List.length_cons, List.length_nil, reduceIte, Nat.reduceEqDiff, Nat.reduceAdd, Nat.reduceLeDiff, Nat.reduceLT, a_day, Nat.zero_ne_one, Nat.one_ne_zero, false_and, and_false, true_and, and_true, or_false, false_or, or_true, true_or, not_true_eq_false, not_false_eq_true, Nat.zero_add, Nat.add_zero, Nat.le_refl, Nat.lt_irrefl, Nat.zero_lt_succ, Nat.zero_le, forall_const, List.cons.injEq, Value.int.injEq, Value.ref.injEq, Value.long.injEq, and_assoc, exists_and_left, exists_eq_left']
        refine ⟨(m_76 hg).1, (m_76 hg).2.1, fun s h1 => by rw [(hv s h1).2]; exact hz s h1, fun M3 hs3 e0 hw => ?_⟩
        have hfin := h M3 (again_S hs hs3 e0 h32 hv hw)
        by_cases e : f = -1
        · have e2 := hf1 e
          have e3 := hfk e
          rw [e3, Nat.sub_self] at e2
          rw [← e2] at hfin
          rw [e]; exact hfin
        · rw [hf2 e]; exact hfin
      rw [nI_clamp (by omega), f100, nI_leI (by omega) (by omega)]
      refine ⟨m_76 hg, m_100 hg, vm l_100 (by omega) (by decide), fun z => ?_, fun z => ⟨fun y => ?_, fun y => ?_⟩⟩
      · subst_vars; exact fin (fun _ => by omega)
      · subst_vars; exact fin (fun q => absurd q y)
      · have hlt : k < nn := by omega
        have y := Decidable.not_not.mp y
        have e1 := hf1 y
        have go : ∀ M2, Sm YR M M2 → dm M2 = pasN X D k → M2 76 32 = M 76 0 → (∀ s, s < 7 → M2 93 s = M 82 s ∧ M2 94 s = M 83 s) → BX6_wrong_32 g Q (T_X6_keeps g) (T_X6_passes g) (T_X6_worth g) (T_X6_again g) K8 [(0, .ref 76), (1, .int (nI i)), (2, .int f), (3, .int (nI k))] [] M2 := by
          intro M2 hs2 hd2 h32 hv
          obtain ⟨ko, kx⟩ := key M2 hs2 _ hd2
          unfold BX6_wrong_32
          generalize hB36 : BX6_wrong_36 g Q (T_X6_keeps g) (T_X6_passes g) (T_X6_worth g) (T_X6_again g) K8 = B36
          simp only [T_X6_worth, i_const, i_lconst, i_iload, i_aload, i_lload, i_istore, i_astore, i_lstore, i_iinc, i_bin, i_div, i_un, i_i2l, i_l2i, i_lbin, i_lcmp, i_if, i_icmp, i_dup, i_dup_x1, i_dup2, i_pop, i_geti, i_getr, i_getd, i_puti, i_putz, i_putd, i_iald, i_bald, i_aald, i_iast, i_bast, i_alen, i_keep, i_ret, i_retz, i_reta, i_retl, i_retv, i_callv, i_callk, i_calls, i_mm, i_copy, i_under, i_undld, i_ldcs, i_sw, q_swc0, q_swc1, q_lg0, q_lg1, q_lent0, q_lent1, lset, lset2, q_lins0, q_lins1, q_ldel0, q_ldel1, q_ldel20, q_ldel21, q_lkeep0, q_lkeep1, q_memb0, q_memb1, cat2, Nat.reduceBEq, decide_true, decide_false, decide_eq_true_eq, cond_true, cond_false, Bool.and_true, Bool.and_false, Bool.true_and, Bool.false_and, f_iadd, f_isub, f_imul, f_ishl, f_ishr, f_iushr, f_iand, f_ior, f_idiv, f_irem, f_ineg, f_i2b, f_i2s, f_ladd, f_lmul, c_eq, c_ne, c_lt, c_ge, c_gt, c_le, cc_eq, cc_ne, cc_lt, cc_ge, cc_gt, cc_le, rfo, aof, csum, Value.category, List.take, List.drop, List.reverse, List.reverseAux, List.map, List.sum_cons, List.sum_nil, List.cons_append, List.nil_append, Option.toList, List.mem_cons, List.not_mem_nil, List.length_cons, List.length_nil, reduceIte, Nat.reduceEqDiff, Nat.reduceAdd, Nat.reduceLeDiff, Nat.reduceLT, a_day, Nat.zero_ne_one, Nat.one_ne_zero, false_and, and_false, true_and, and_true, or_false, false_or, or_true, true_or, not_true_eq_false, not_false_eq_true, Nat.zero_add, Nat.add_zero, Nat.le_refl, Nat.lt_irrefl, Nat.zero_lt_succ, Nat.zero_le, forall_const, List.cons.injEq, Value.int.injEq, Value.ref.injEq, Value.long.injEq, and_assoc, exists_and_left, exists_eq_left']
          refine ⟨(m_76 hg).1, (m_76 hg).2.1, ko, fun M3 hs3 hl3 => ?_⟩
          rw [hd2, kx]
          obtain ⟨-, kd3, -⟩ := keepM hs3 YL88 ko
          have hs3R : Sm YR M M3 := hs2.tr (hs3.mono fun a b q => by unfold YL at q; unfold YR; omega)
          have f2 : ∀ a b, ¬ YL a b → M3 a b = M2 a b := fun a b q => hs3 a b q
          have ec : M3 101 (40 * i + k) = c0 k := by rw [hs3R _ _ (by unfold YR; omega), ← hc0]
          subst hB36
          unfold BX6_wrong_36
          simp only [T_X6_keeps, T_X6_passes, T_X6_worth, T_X6_again, i_const, i_lconst, i_iload, i_aload, i_lload, i_istore, i_astore, i_lstore, i_iinc, i_bin, i_div, i_un, i_i2l, i_l2i, i_lbin, i_lcmp, i_if, i_icmp, i_dup, i_dup_x1, i_dup2, i_pop, i_geti, i_getr, i_getd, i_puti, i_putz, i_putd, i_iald, i_bald, i_aald, i_iast, i_bast, i_alen, i_keep, i_ret, i_retz, i_reta, i_retl, i_retv, i_callv, i_callk, i_calls, i_mm, i_copy, i_under, i_undld, i_ldcs, i_sw, q_swc0, q_swc1, q_lg0, q_lg1, q_lent0, q_lent1, lset, lset2, q_lins0, q_lins1, q_ldel0, q_ldel1, q_ldel20, q_ldel21, q_lkeep0, q_lkeep1, q_memb0, q_memb1, cat2, Nat.reduceBEq, decide_true, decide_false, decide_eq_true_eq, cond_true, cond_false, Bool.and_true, Bool.and_false, Bool.true_and, Bool.false_and, f_iadd, f_isub, f_imul, f_ishl, f_ishr, f_iushr, f_iand, f_ior, f_idiv, f_irem, f_ineg, f_i2b, f_i2s, f_ladd, f_lmul, c_eq, c_ne, c_lt, c_ge, c_gt, c_le, cc_eq, cc_ne, cc_lt, cc_ge, cc_gt, cc_le, rfo, aof, csum, Value.category, List.take, List.drop, List.reverse, List.reverseAux, List.map, List.sum_cons, List.sum_nil, List.cons_append, List.nil_append, Option.toList, List.mem_cons, List.not_mem_nil, List.length_cons, List.length_nil, reduceIte, Nat.reduceEqDiff, Nat.reduceAdd, Nat.reduceLeDiff, Nat.reduceLT, a_day, Nat.zero_ne_one, Nat.one_ne_zero, false_and, and_false, true_and, and_true, or_false, false_or, or_true, true_or, not_true_eq_false, not_false_eq_true, Nat.zero_add, Nat.add_zero, Nat.le_refl, Nat.lt_irrefl, Nat.zero_lt_succ, Nat.zero_le, forall_const, List.cons.injEq, Value.int.injEq, Value.ref.injEq, Value.long.injEq, and_assoc, exists_and_left, exists_eq_left']
          try simp only [forall_eq]
          rw [show (40 : Int32) = nI 40 from rfl, pk_mul, nI_add, nI_clamp (by omega), ec, nI_1]
          have hI : ∀ f', (f' = -1 → wrg X D c0 (nn - (k + 1)) (k + 1) = wrg X D c0 nn 0) → (¬ f' = -1 → f' = wrg X D c0 nn 0) → K8 [(0, .ref 76), (1, .int (nI i)), (2, .int f'), (3, .int (nI (k + 1)))] [] M3 := by
            intro f' q1 q2
            refine hK8 (nn - (k + 1)) _ _ _ (by omega) ?_
            rw [hI8]
            refine ⟨k + 1, f', rfl, rfl, by omega, rfl, hs3R, ?_, ?_, fun s h1 => ?_, q1, q2⟩
            · rw [kd3, hd2]; rfl
            · rw [f2 _ _ (by unfold YL; omega)]; exact h32
            · rw [f2 _ _ (by unfold YL; omega), f2 _ _ (by unfold YL; omega)]; exact hv s h1
          have est : wrg X D c0 (nn - k) k = if wor X (pasN X D k) = c0 k then wrg X D c0 (nn - (k + 1)) (k + 1) else nI k := by
            rw [show nn - k = (nn - (k + 1)) + 1 by omega]; rfl
          rw [est] at e1
          refine ⟨m_76 hg, m_101 hg, vm l_101 (by omega) (by decide), fun u => ?_, fun u => ?_⟩
          · rw [if_pos u] at e1
            exact hI f (fun _ => e1) (fun q => absurd y q)
          · rw [if_neg u] at e1
            exact hI (nI k) (fun q => absurd (nI_pos' (n := k) (by omega)) (by rw [q]; decide)) (fun _ => e1)
        refine ⟨fun u => ?_, fun u => ⟨(m_76 hg).1, (m_76 hg).2.1, ko, fun M2 hs2 hd2 => ?_⟩⟩
        · have hk0 : k = 0 := by
            rcases Nat.eq_zero_or_pos k with q | q
            · exact q
            · exact absurd u (nI_nle q (by omega))
          subst_vars; exact go M1 hs hd h32 hv
        · have hk0 : 0 < k := by
            rcases Nat.eq_zero_or_pos k with q | q
            · subst q; exact absurd (by decide) u
            · exact q
          have hs2 : Sm YW M1 M2 := hs2.mono YWn_W
          have f2 : ∀ a b, ¬ YW a b → M2 a b = M1 a b := fun a b q => hs2 a b q
          have hd3 : dm M2 = pasN X D k := by
            rw [hd2, kx, hd]
            show pasN X D (k - 1 + 1) = _
            rw [show k - 1 + 1 = k by omega]
          have hv2 : ∀ s, s < 7 → M2 93 s = M 82 s ∧ M2 94 s = M 83 s := fun s h1 => by rw [f2 _ _ (by unfold YW; omega), f2 _ _ (by unfold YW; omega)]; exact hv s h1
          have hg2 := go M2 (hs.tr (hs2.mono fun a b q => by unfold YW at q; unfold YR; omega)) hd3 (by rw [f2 _ _ (by unfold YW; omega)]; exact h32) hv2
          subst hB31
          unfold BX6_wrong_31
          simp only [i_const, i_lconst, i_iload, i_aload, i_lload, i_istore, i_astore, i_lstore, i_iinc, i_bin, i_div, i_un, i_i2l, i_l2i, i_lbin, i_lcmp, i_if, i_icmp, i_dup, i_dup_x1, i_dup2, i_pop, i_geti, i_getr, i_getd, i_puti, i_putz, i_putd, i_iald, i_bald, i_aald, i_iast, i_bast, i_alen, i_keep, i_ret, i_retz, i_reta, i_retl, i_retv, i_callv, i_callk, i_calls, i_mm, i_copy, i_under, i_undld, i_ldcs, i_sw, q_swc0, q_swc1, q_lg0, q_lg1, q_lent0, q_lent1, lset, lset2, q_lins0, q_lins1, q_ldel0, q_ldel1, q_ldel20, q_ldel21, q_lkeep0, q_lkeep1, q_memb0, q_memb1, cat2, Nat.reduceBEq, decide_true, decide_false, decide_eq_true_eq, cond_true, cond_false, Bool.and_true, Bool.and_false, Bool.true_and, Bool.false_and, f_iadd, f_isub, f_imul, f_ishl, f_ishr, f_iushr, f_iand, f_ior, f_idiv, f_irem, f_ineg, f_i2b, f_i2s, f_ladd, f_lmul, c_eq, c_ne, c_lt, c_ge, c_gt, c_le, cc_eq, cc_ne, cc_lt, cc_ge, cc_gt, cc_le, rfo, aof, csum, Value.category, List.take, List.drop, List.reverse, List.reverseAux, List.map, List.sum_cons, List.sum_nil, List.cons_append, List.nil_append, Option.toList, List.mem_cons, List.not_mem_nil, List.length_cons, List.length_nil, reduceIte, Nat.reduceEqDiff, Nat.reduceAdd, Nat.reduceLeDiff, Nat.reduceLT, a_day, Nat.zero_ne_one, Nat.one_ne_zero, false_and, and_false, true_and, and_true, or_false, false_or, or_true, true_or, not_true_eq_false, not_false_eq_true, Nat.zero_add, Nat.add_zero, Nat.le_refl, Nat.lt_irrefl, Nat.zero_lt_succ, Nat.zero_le, forall_const, List.cons.injEq, Value.int.injEq, Value.ref.injEq, Value.long.injEq, and_assoc, exists_and_left, exists_eq_left']
          subst_vars
          exact hg2
    refine s_of (fun lv st M0 hs => ?_) (WX6_wrong_0 C (t_X6_keeps hg) (by decide) (t_X6_passes hg) (by decide) (t_X6_worth hg) (by decide) (t_X6_again hg) (by decide) L8)
    obtain ⟨rfl, rfl, rfl⟩ := hs
    unfold BX6_wrong_0
    generalize hB4 : BX6_wrong_4 g Q (T_X6_keeps g) (T_X6_passes g) (T_X6_worth g) (T_X6_again g) E8 = B4
    simp only [T_X6_keeps, T_X6_passes, T_X6_worth, T_X6_again, i_const, i_lconst, i_iload, i_aload, i_lload, i_istore, i_astore, i_lstore, i_iinc, i_bin, i_div, i_un, i_i2l, i_l2i, i_lbin, i_lcmp, i_if, i_icmp, i_dup, i_dup_x1, i_dup2, i_pop, i_geti, i_getr, i_getd, i_puti, i_putz, i_putd, i_iald, i_bald, i_aald, i_iast, i_bast, i_alen, i_keep, i_ret, i_retz, i_reta, i_retl, i_retv, i_callv, i_callk, i_calls, i_mm, i_copy, i_under, i_undld, i_ldcs, i_sw, q_swc0, q_swc1, q_lg0, q_lg1, q_lent0, q_lent1, lset, lset2, q_lins0, q_lins1, q_ldel0, q_ldel1, q_ldel20, q_ldel21, q_lkeep0, q_lkeep1, q_memb0, q_memb1, cat2, Nat.reduceBEq, decide_true, decide_false, decide_eq_true_eq, cond_true, cond_false, Bool.and_true, Bool.and_false, Bool.true_and, Bool.false_and, f_iadd, f_isub, f_imul, f_ishl, f_ishr, f_iushr, f_iand, f_ior, f_idiv, f_irem, f_ineg, f_i2b, f_i2s, f_ladd, f_lmul, c_eq, c_ne, c_lt, c_ge, c_gt, c_le, cc_eq, cc_ne, cc_lt, cc_ge, cc_gt, cc_le, rfo, aof, csum, Value.category, List.take, List.drop, List.reverse, List.reverseAux, List.map, List.sum_cons, List.sum_nil, List.cons_append, List.nil_append, Option.toList, List.mem_cons, List.not_mem_nil, List.length_cons, List.length_nil, reduceIte, Nat.reduceEqDiff, Nat.reduceAdd, Nat.reduceLeDiff, Nat.reduceLT, a_day, Nat.zero_ne_one, Nat.one_ne_zero, false_and, and_false, true_and, and_true, or_false, false_or, or_true, true_or, not_true_eq_false, not_false_eq_true, Nat.zero_add, Nat.add_zero, Nat.le_refl, Nat.lt_irrefl, Nat.zero_lt_succ, Nat.zero_le, forall_const, List.cons.injEq, Value.int.injEq, Value.ref.injEq, Value.long.injEq, and_assoc, exists_and_left, exists_eq_left']
    try simp only [forall_eq]
    refine ⟨(m_76 hg).1, (m_76 hg).2.1, hz, fun M1 hs1 h32 hv => ?_⟩
    subst hB4
    unfold BX6_wrong_4
    simp only [T_X6_keeps, T_X6_passes, T_X6_worth, T_X6_again, i_const, i_lconst, i_iload, i_aload, i_lload, i_istore, i_astore, i_lstore, i_iinc, i_bin, i_div, i_un, i_i2l, i_l2i, i_lbin, i_lcmp, i_if, i_icmp, i_dup, i_dup_x1, i_dup2, i_pop, i_geti, i_getr, i_getd, i_puti, i_putz, i_putd, i_iald, i_bald, i_aald, i_iast, i_bast, i_alen, i_keep, i_ret, i_retz, i_reta, i_retl, i_retv, i_callv, i_callk, i_calls, i_mm, i_copy, i_under, i_undld, i_ldcs, i_sw, q_swc0, q_swc1, q_lg0, q_lg1, q_lent0, q_lent1, lset, lset2, q_lins0, q_lins1, q_ldel0, q_ldel1, q_ldel20, q_ldel21, q_lkeep0, q_lkeep1, q_memb0, q_memb1, cat2, Nat.reduceBEq, decide_true, decide_false, decide_eq_true_eq, cond_true, cond_false, Bool.and_true, Bool.and_false, Bool.true_and, Bool.false_and, f_iadd, f_isub, f_imul, f_ishl, f_ishr, f_iushr, f_iand, f_ior, f_idiv, f_irem, f_ineg, f_i2b, f_i2s, f_ladd, f_lmul, c_eq, c_ne, c_lt, c_ge, c_gt, c_le, cc_eq, cc_ne, cc_lt, cc_ge, cc_gt, cc_le, rfo, aof, csum, Value.category, List.take, List.drop, List.reverse, List.reverseAux, List.map, List.sum_cons, List.sum_nil, List.cons_append, List.nil_append, Option.toList, List.mem_cons, List.not_mem_nil, List.length_cons, List.length_nil, reduceIte, Nat.reduceEqDiff, Nat.reduceAdd, Nat.reduceLeDiff, Nat.reduceLT, a_day, Nat.zero_ne_one, Nat.one_ne_zero, false_and, and_false, true_and, and_true, or_false, false_or, or_true, true_or, not_true_eq_false, not_false_eq_true, Nat.zero_add, Nat.add_zero, Nat.le_refl, Nat.lt_irrefl, Nat.zero_lt_succ, Nat.zero_le, forall_const, List.cons.injEq, Value.int.injEq, Value.ref.injEq, Value.long.injEq, and_assoc, exists_and_left, exists_eq_left']
    try simp only [forall_eq]
    have hs1R : Sm YR M0 M1 := hs1.mono fun a b q => by unfold YK at q; unfold YR; omega
    refine iE8 (nn - 0) _ _ _ ?_
    rw [hI8]
    refine ⟨0, -1, rfl, rfl, by omega, rfl, hs1R, ?_, h32, hv, fun _ => rfl, fun q => absurd rfl q⟩
    show dm M1 = D
    rw [← hDe]
    exact dm_sm hs1 (fun j => by unfold YK; omega) (fun j hj => by unfold YK; omega) (fun f s _ _ _ => by unfold YK; omega) (by rw [hDe]; exact hn)
theorem bsum_n {p : Nat → Bool} {h : Nat} (hp : ¬ p h = true) : bsum p (h + 1) = bsum p h := by simp only [bsum, if_neg hp]
/-- the sheet's numbers stand -/
theorem cells_S {M M' : MM} {i : Nat} (h : Sm YS M M') : (fun j => M' 101 (40 * i + j)) = (fun j => M 101 (40 * i + j)) := by
  funext j; exact h _ _ (by unfold YS; omega)
/-- the model by another rule -/
theorem okM_r {M : MM} {T t : Nat} (hT : T ≤ 6) (ht : t < T) (htx : ∀ t, t < T → mtx M t) (hwf : wfD (dm M) T) : okM (mset M 76 9 (nI t)) ∧ dm (mset M 76 9 (nI t)) = upF (dm M) 7 2 (nI (8 + 4 * t)) ∧ xm (mset M 76 9 (nI t)) = xm M ∧ (zM M → zM (mset M 76 9 (nI t))) := by
  have hd : dm (mset M 76 9 (nI t)) = upF (dm M) 7 2 (nI (8 + 4 * t)) := by
    funext f i
    have a1 : ¬ 77 = 76 := by omega
    have a2 : ∀ f, ¬ 77 + f = 76 := by intro f; omega
    simp only [dm, upF, mset_app, a1, a2, if_false, if_true, nI_clamp (show t < 2 ^ 31 by omega)]
    by_cases h7 : f = 7
    · subst h7
      by_cases h2 : i = 2
      · subst h2; simp
      · simp [h2]
    · simp [h7]
  have e5 : mset M 76 9 (nI t) 85 = M 85 := mset_ne M _ _ (by decide)
  have e6 : mset M 76 9 (nI t) 86 = M 86 := mset_ne M _ _ (by decide)
  have e7 : mset M 76 9 (nI t) 87 = M 87 := mset_ne M _ _ (by decide)
  refine ⟨⟨T, ?_, fun t' ht' => mtx_eq e5 e6 e7 (htx t' ht'), t, ht, ms_s _ _ _ _⟩, hd, xm_eq e5 e6 e7, fun hz k hk => by rw [ms_q (by decide)]; exact hz k hk⟩
  rw [hd]
  refine ⟨?_, ?_, fun k hk => ?_, ⟨t, ht, ?_⟩, hT⟩
  · unfold dn; rw [upF_nk (by omega)]; exact hwf.1
  · unfold dn; rw [upF_nk (by omega)]; exact hwf.2.1
  · have hk2 : k < dn (dm M) := by unfold dn at hk ⊢; rwa [upF_nk (by omega)] at hk
    have := hwf.2.2.1 k hk2
    unfold wfS fi la at this ⊢
    rw [upF_ne (f := 3) (by omega), upF_ne (f := 4) (by omega), upF_ne (f := 5) (by omega), upF_ne (f := 6) (by omega), upF_ne (f := 1) (by omega), upF_ne (f := 2) (by omega)]
    exact this
  · rw [upF_s]
def T_X6_textsSo (g : WG) (as : List Value) (M : MM) (Q : Option Value → MM → Prop) : Prop := ∃ i n T, as = [.ref 76, .int (nI i)] ∧ i < 4 ∧ okM M ∧ zM M ∧ M 100 i = nI n ∧ n ≤ 40 ∧ M 76 12 = nI T ∧ wfD (dm M) T ∧ (∀ t, t < T → mtx M t) ∧ ∀ M', Sm YS M M' → Q (some (.int (nI (bsum (soB (xm M) (telF (dm M) 0 0) (fun j => M 101 (40 * i + j)) n) T)))) M'
set_option maxRecDepth 100000 in
set_option maxHeartbeats 2000000 in
theorem t_X6_textsSo {l : Launch} {g : WG} (hg : Full g) : Ct l g yX6_textsSo cX6_textsSo 5 ((Option.some FieldType.int)) 9 (T_X6_textsSo g) := by
  refine Ct.of (by decide) (fun as M Q h => ?_) (fun p e s m args below meth c as M Q h C => ?_)
  · obtain ⟨i, nn, T, rfl, hi, ho, hz, hsz, h40, hT, hwf, htx, h⟩ := h; exact ⟨by simp, by simp [Value.category]⟩
  · obtain ⟨i, nn, T, rfl, hi, ho, hz, hsz, h40, hT, hwf, htx, h⟩ := h
    have hT6 := hwf.2.2.2.2
    obtain ⟨p', hp⟩ : ∃ p', soB (xm M) (telF (dm M) 0 0) (fun j => M 101 (40 * i + j)) nn = p' := ⟨_, rfl⟩
    rw [hp] at h
    obtain ⟨I10, hI10⟩ : ∃ I : Nat → PP, I = (fun n lv st M' => ∃ k, lv = [(0, .ref 76), (1, .int (nI i)), (2, .int (M 76 9)), (3, .int (nI (bsum p' k))), (4, .int (nI k))] ∧ st = [] ∧ k ≤ T ∧ n = T - k ∧ Sm (fun a b => YS a b ∨ (a = 76 ∧ b = 9)) M M') := ⟨_, rfl⟩
    obtain ⟨E10, hE10⟩ : ∃ E : PP, E = (fun lv st M => ∃ n, I10 n lv st M) := ⟨_, rfl⟩
    have iE10 : ∀ n lv st M, I10 n lv st M → E10 lv st M := fun n lv st M h => by rw [hE10]; exact ⟨n, h⟩
    have L10 : Sj p l e 9 s m args below meth c 5 g (MQ below (cQc g Q) args s 0 0 (gA g)) 10 E10 := by
      rw [hE10]
      refine s_ex (s_loop I10 (fun K10 k10 => WX6_textsSo_10 C (t_X6_wrong hg) (by decide) k10) ?_)
      intro n lv st M1 K10 hK10 hI; rw [hI10] at hI; obtain ⟨k, rfl, rfl, hk, rfl, hsm⟩ := hI
      unfold BX6_textsSo_10
      generalize hB30 : BX6_textsSo_30 g Q (T_X6_wrong g) K10 = B30
      generalize hB47 : BX6_textsSo_47 g Q (T_X6_wrong g) K10 = B47
      simp only [T_X6_wrong, i_const, i_lconst, i_iload, i_aload, i_lload, i_istore, i_astore, i_lstore, i_iinc, i_bin, i_div, i_un, i_i2l, i_l2i, i_lbin, i_lcmp, i_if, i_icmp, i_dup, i_dup_x1, i_dup2, i_pop, i_geti, i_getr, i_getd, i_puti, i_putz, i_putd, i_iald, i_bald, i_aald, i_iast, i_bast, i_alen, i_keep, i_ret, i_retz, i_reta, i_retl, i_retv, i_callv, i_callk, i_calls, i_mm, i_copy, i_under, i_undld, i_ldcs, i_sw, q_swc0, q_swc1, q_lg0, q_lg1, q_lent0, q_lent1, lset, lset2, q_lins0, q_lins1, q_ldel0, q_ldel1, q_ldel20, q_ldel21, q_lkeep0, q_lkeep1, q_memb0, q_memb1, cat2, Nat.reduceBEq, decide_true, decide_false, decide_eq_true_eq, cond_true, cond_false, Bool.and_true, Bool.and_false, Bool.true_and, Bool.false_and, f_iadd, f_isub, f_imul, f_ishl, f_ishr, f_iushr, f_iand, f_ior, f_idiv, f_irem, f_ineg, f_i2b, f_i2s, f_ladd, f_lmul, c_eq, c_ne, c_lt, c_ge, c_gt, c_le, cc_eq, cc_ne, cc_lt, cc_ge, cc_gt, cc_le, rfo, aof, csum, Value.category, List.take, List.drop, List.reverse, List.reverseAux, List.map, List.sum_cons, List.sum_nil, List.cons_append, List.nil_append, Option.toList, List.mem_cons, List.not_mem_nil, List.length_cons, List.length_nil, reduceIte, Nat.reduceEqDiff, Nat.reduceAdd, Nat.reduceLeDiff, Nat.reduceLT, a_day, Nat.zero_ne_one, Nat.one_ne_zero, false_and, and_false, true_and, and_true, or_false, false_or, or_true, true_or, not_true_eq_false, not_false_eq_true, Nat.zero_add, Nat.add_zero, Nat.le_refl, Nat.lt_irrefl, Nat.zero_lt_succ, Nat.zero_le, forall_const, List.cons.injEq, Value.int.injEq, Value.ref.injEq, Value.long.injEq, and_assoc, exists_and_left, exists_eq_left']
      try simp only [forall_eq]
      have e12 : M1 76 12 = nI T := by rw [hsm _ _ (by unfold YS; omega)]; exact hT
      rw [e12, nI_leI (by omega) (by omega)]
      refine ⟨m_76 hg, fun z => ?_, fun z => ?_⟩
      · have : k = T := by omega
        subst this
        subst hB47
        unfold BX6_textsSo_47
        simp only [T_X6_wrong, i_const, i_lconst, i_iload, i_aload, i_lload, i_istore, i_astore, i_lstore, i_iinc, i_bin, i_div, i_un, i_i2l, i_l2i, i_lbin, i_lcmp, i_if, i_icmp, i_dup, i_dup_x1, i_dup2, i_pop, i_geti, i_getr, i_getd, i_puti, i_putz, i_putd, i_iald, i_bald, i_aald, i_iast, i_bast, i_alen, i_keep, i_ret, i_retz, i_reta, i_retl, i_retv, i_callv, i_callk, i_calls, i_mm, i_copy, i_under, i_undld, i_ldcs, i_sw, q_swc0, q_swc1, q_lg0, q_lg1, q_lent0, q_lent1, lset, lset2, q_lins0, q_lins1, q_ldel0, q_ldel1, q_ldel20, q_ldel21, q_lkeep0, q_lkeep1, q_memb0, q_memb1, cat2, Nat.reduceBEq, decide_true, decide_false, decide_eq_true_eq, cond_true, cond_false, Bool.and_true, Bool.and_false, Bool.true_and, Bool.false_and, f_iadd, f_isub, f_imul, f_ishl, f_ishr, f_iushr, f_iand, f_ior, f_idiv, f_irem, f_ineg, f_i2b, f_i2s, f_ladd, f_lmul, c_eq, c_ne, c_lt, c_ge, c_gt, c_le, cc_eq, cc_ne, cc_lt, cc_ge, cc_gt, cc_le, rfo, aof, csum, Value.category, List.take, List.drop, List.reverse, List.reverseAux, List.map, List.sum_cons, List.sum_nil, List.cons_append, List.nil_append, Option.toList, List.mem_cons, List.not_mem_nil, List.length_cons, List.length_nil, reduceIte, Nat.reduceEqDiff, Nat.reduceAdd, Nat.reduceLeDiff, Nat.reduceLT, a_day, Nat.zero_ne_one, Nat.one_ne_zero, false_and, and_false, true_and, and_true, or_false, false_or, or_true, true_or, not_true_eq_false, not_false_eq_true, Nat.zero_add, Nat.add_zero, Nat.le_refl, Nat.lt_irrefl, Nat.zero_lt_succ, Nat.zero_le, forall_const, List.cons.injEq, Value.int.injEq, Value.ref.injEq, Value.long.injEq, and_assoc, exists_and_left, exists_eq_left']
        try simp only [forall_eq]
        exact ⟨m_76 hg, h _ hsm.back⟩
      · have hk6 : k < T := by omega
        obtain ⟨a1, a2, a3, a4⟩ := okM_r hT6 hk6 htx hwf
        have s1 := hsm.m2 (nI k)
        obtain ⟨b1, b2, b3⟩ := keepS s1 a1
        have bz := zM_S s1 (a4 hz)
        have b100 : mset M1 76 9 (nI k) 100 i = nI nn := by rw [s1 _ _ (by unfold YS; omega), ms_q (by decide)]; exact hsz
        refine ⟨m_76 hg, (m_76 hg).1, (m_76 hg).2.1, i, rfl, hi, b1, bz, nn, b100, h40, fun M3 hs3 => ?_⟩
        have hcs : (fun j => mset M1 76 9 (nI k) 101 (40 * i + j)) = (fun j => M 101 (40 * i + j)) := by rw [cells_S s1]; funext j; exact ms_q (by decide)
        rw [hcs, b2, b3, a2, a3]
        have hsm3 : Sm (fun a b => YS a b ∨ (a = 76 ∧ b = 9)) M M3 := (hsm.set _ (Or.inr ⟨rfl, rfl⟩)).tr (hs3.mono fun a b q => Or.inl q)
        have hpk : p' k = decide (wrg (xm M) (upF (dm M) 7 2 (nI (8 + 4 * k))) (fun j => M 101 (40 * i + j)) nn 0 = -1) := by rw [← hp]; rfl
        subst hB30
        unfold BX6_textsSo_30
        simp only [T_X6_wrong, i_const, i_lconst, i_iload, i_aload, i_lload, i_istore, i_astore, i_lstore, i_iinc, i_bin, i_div, i_un, i_i2l, i_l2i, i_lbin, i_lcmp, i_if, i_icmp, i_dup, i_dup_x1, i_dup2, i_pop, i_geti, i_getr, i_getd, i_puti, i_putz, i_putd, i_iald, i_bald, i_aald, i_iast, i_bast, i_alen, i_keep, i_ret, i_retz, i_reta, i_retl, i_retv, i_callv, i_callk, i_calls, i_mm, i_copy, i_under, i_undld, i_ldcs, i_sw, q_swc0, q_swc1, q_lg0, q_lg1, q_lent0, q_lent1, lset, lset2, q_lins0, q_lins1, q_ldel0, q_ldel1, q_ldel20, q_ldel21, q_lkeep0, q_lkeep1, q_memb0, q_memb1, cat2, Nat.reduceBEq, decide_true, decide_false, decide_eq_true_eq, cond_true, cond_false, Bool.and_true, Bool.and_false, Bool.true_and, Bool.false_and, f_iadd, f_isub, f_imul, f_ishl, f_ishr, f_iushr, f_iand, f_ior, f_idiv, f_irem, f_ineg, f_i2b, f_i2s, f_ladd, f_lmul, c_eq, c_ne, c_lt, c_ge, c_gt, c_le, cc_eq, cc_ne, cc_lt, cc_ge, cc_gt, cc_le, rfo, aof, csum, Value.category, List.take, List.drop, List.reverse, List.reverseAux, List.map, List.sum_cons, List.sum_nil, List.cons_append, List.nil_append, Option.toList, List.mem_cons, List.not_mem_nil, List.length_cons, List.length_nil, reduceIte, Nat.reduceEqDiff, Nat.reduceAdd, Nat.reduceLeDiff, Nat.reduceLT, a_day, Nat.zero_ne_one, Nat.one_ne_zero, false_and, and_false, true_and, and_true, or_false, false_or, or_true, true_or, not_true_eq_false, not_false_eq_true, Nat.zero_add, Nat.add_zero, Nat.le_refl, Nat.lt_irrefl, Nat.zero_lt_succ, Nat.zero_le, forall_const, List.cons.injEq, Value.int.injEq, Value.ref.injEq, Value.long.injEq, and_assoc, exists_and_left, exists_eq_left']
        try simp only [forall_eq]
        rw [nI_1]
        have fin : ∀ x, x = nI (bsum p' (k + 1)) → K10 [(0, .ref 76), (1, .int (nI i)), (2, .int (M 76 9)), (3, .int x), (4, .int (nI (k + 1)))] [] M3 := by
          intro x hx
          subst hx
          refine hK10 (T - (k + 1)) _ _ _ (by omega) ?_
          rw [hI10]
          exact ⟨k + 1, rfl, rfl, by omega, rfl, hsm3⟩
        refine ⟨fun y => fin _ ?_, fun y => fin _ ?_⟩
        · rw [bsum_n]; rw [hpk]; simpa using y
        · exact bsum_or (by omega) (by rw [hpk]; simpa using y)
      
    refine s_of (fun lv st M0 hs => ?_) (WX6_textsSo_0 C (t_X6_wrong hg) (by decide) L10)
    obtain ⟨rfl, rfl, rfl⟩ := hs
    unfold BX6_textsSo_0
    simp only [T_X6_wrong, i_const, i_lconst, i_iload, i_aload, i_lload, i_istore, i_astore, i_lstore, i_iinc, i_bin, i_div, i_un, i_i2l, i_l2i, i_lbin, i_lcmp, i_if, i_icmp, i_dup, i_dup_x1, i_dup2, i_pop, i_geti, i_getr, i_getd, i_puti, i_putz, i_putd, i_iald, i_bald, i_aald, i_iast, i_bast, i_alen, i_keep, i_ret, i_retz, i_reta, i_retl, i_retv, i_callv, i_callk, i_calls, i_mm, i_copy, i_under, i_undld, i_ldcs, i_sw, q_swc0, q_swc1, q_lg0, q_lg1, q_lent0, q_lent1, lset, lset2, q_lins0, q_lins1, q_ldel0, q_ldel1, q_ldel20, q_ldel21, q_lkeep0, q_lkeep1, q_memb0, q_memb1, cat2, Nat.reduceBEq, decide_true, decide_false, decide_eq_true_eq, cond_true, cond_false, Bool.and_true, Bool.and_false, Bool.true_and, Bool.false_and, f_iadd, f_isub, f_imul, f_ishl, f_ishr, f_iushr, f_iand, f_ior, f_idiv, f_irem, f_ineg, f_i2b, f_i2s, f_ladd, f_lmul, c_eq, c_ne, c_lt, c_ge, c_gt, c_le, cc_eq, cc_ne, cc_lt, cc_ge, cc_gt, cc_le, rfo, aof, csum, Value.category, List.take, List.drop, List.reverse, List.reverseAux, List.map, List.sum_cons, List.sum_nil, List.cons_append, List.nil_append, Option.toList, List.mem_cons, List.not_mem_nil, List.length_cons, List.length_nil, reduceIte, Nat.reduceEqDiff, Nat.reduceAdd, Nat.reduceLeDiff, Nat.reduceLT, a_day, Nat.zero_ne_one, Nat.one_ne_zero, false_and, and_false, true_and, and_true, or_false, false_or, or_true, true_or, not_true_eq_false, not_false_eq_true, Nat.zero_add, Nat.add_zero, Nat.le_refl, Nat.lt_irrefl, Nat.zero_lt_succ, Nat.zero_le, forall_const, List.cons.injEq, Value.int.injEq, Value.ref.injEq, Value.long.injEq, and_assoc, exists_and_left, exists_eq_left']
    try simp only [forall_eq]
    refine ⟨m_76 hg, iE10 (T - 0) _ _ _ ?_⟩
    rw [hI10]
    exact ⟨0, rfl, rfl, by omega, rfl, Sm.rf⟩
