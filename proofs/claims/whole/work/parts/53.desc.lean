/-! ===== the class's reader: its descent ===== -/
def fs (s : Int32) : Prop := ¬ s = 42 ∧ ¬ s = 43 ∧ ¬ s = 45
def fb (s : Int32) : Prop := fs s ∧ ¬ s = 8
theorem fol_of {s : Int32} (h : fb s) (h7 : ¬ s = 7) : fol s := ⟨h.1.1, h.1.2.1, h.1.2.2, h.2, h7⟩
abbrev SV : Type := Nat → Int32
def Ucon (F : SV → SV → Nat → Nat → Nat → Prop) (G : SV → SV → Nat → Nat → Nat → List Int32 → Prop) (k : Nat) (as : List Value) (M : MM) (Q : Option Value → MM → Prop) : Prop := ∃ (r op m i sz : Nat) (f : Int32), as = [.ref 3, .ref r, .int (nI op)] ∧ isT r ∧ op ≤ 5 ∧ 6 ≤ op + k ∧ RSt M r m i sz f ∧ ∀ M', (FlO (F (M 5) (M 6) op i) M M' r m i f ∨ (f = -1 ∧ GdO (G (M 5) (M 6) op i) M M' r m i sz)) → Q none M'
def U_X3_one (k : Nat) (g : WG) (as : List Value) (M : MM) (Q : Option Value → MM → Prop) : Prop := Ucon F1 G1 k as M Q
def U_X3_term (k : Nat) (g : WG) (as : List Value) (M : MM) (Q : Option Value → MM → Prop) : Prop := Ucon (FL 6) (fun S V op i j c => GL 6 S V op i j c ∧ ¬ S j = 42) k as M Q
def U_X3_sum (k : Nat) (g : WG) (as : List Value) (M : MM) (Q : Option Value → MM → Prop) : Prop := Ucon (FL 5) (fun S V op i j c => GL 5 S V op i j c ∧ fs (S j)) k as M Q
def U_X3_compared (k : Nat) (g : WG) (as : List Value) (M : MM) (Q : Option Value → MM → Prop) : Prop := Ucon F4 (fun S V op i j c => G4 S V op i j c ∧ fs (S j)) k as M Q
def U_X3_denial (k : Nat) (g : WG) (as : List Value) (M : MM) (Q : Option Value → MM → Prop) : Prop := Ucon F3 (fun S V op i j c => G3 S V op i j c ∧ fs (S j)) k as M Q
def U_X3_both (k : Nat) (g : WG) (as : List Value) (M : MM) (Q : Option Value → MM → Prop) : Prop := Ucon (FB 2) (fun S V op i j c => GB 2 S V op i j c ∧ fb (S j)) k as M Q
def U_X3_either (k : Nat) (g : WG) (as : List Value) (M : MM) (Q : Option Value → MM → Prop) : Prop := Ucon (FB 1) (fun S V op i j c => GB 1 S V op i j c ∧ fol (S j)) k as M Q
theorem GdO.mono {G G' : Nat → List Int32 → Prop} {M M' : MM} {r m i sz : Nat} (h : GdO G M M' r m i sz) (hG : ∀ j c, i + 1 ≤ j → G j c → G' j c) : GdO G' M M' r m i sz := by
  obtain ⟨a, j, c, b1, b2, b3, b4, b5, b6, b7⟩ := h
  exact ⟨a, j, c, b1, b2, b3, b4, b5, b6, hG j c b1 b7⟩
theorem r_3 {g : WG} (hr : Reg g 3 32) : okq g 3 3 := okR hr (by decide) (by decide) rfl
theorem r_5 {g : WG} (hr : Reg g 3 32) : okq g 7 5 := okR hr (by decide) (by decide) rfl
theorem r_6 {g : WG} (hr : Reg g 3 32) : okq g 7 6 := okR hr (by decide) (by decide) rfl
theorem v_5 {m i : Nat} (hm : m ≤ 160) (hi : i ≤ m) : vp_in (nI i) (ln 5) := vp_in_nI (n := i) (N := 161) (by omega) (by decide)
set_option maxRecDepth 100000 in
set_option maxHeartbeats 2000000 in
theorem u_X3_term {l : Launch} {g : WG} (hr : Reg g 3 32) (k : Nat) (ih_X3_one : Ct l g yX3_one cX3_one 5 ((Option.none : Option FieldType)) (8 * (k + 1) + 0) (U_X3_one (k + 1) g)) : Ct l g yX3_term cX3_term 4 ((Option.none : Option FieldType)) (8 * (k + 1) + 1) (U_X3_term (k + 1) g) := by
  refine Ct.of (by decide) (fun as M Q h => ?_) (fun p e s m args below meth c as M Q h C => ?_)
  · obtain ⟨r, op, m', i, sz, f, rfl, hT, hop, hk, hR, h⟩ := h; exact ⟨by simp, by simp [Value.category]⟩
  · obtain ⟨r, op, m', i, sz, f, rfl, hT, hop, hk, hR, h⟩ := h
    have h8 := isT_8 hT
    obtain ⟨S, hS⟩ : ∃ S, M 5 = S := ⟨_, rfl⟩
    obtain ⟨V, hV⟩ : ∃ V, M 6 = V := ⟨_, rfl⟩
    rw [hS, hV] at h
    have hm := hR.1.2.1
    have h50 : S m' = 0 := by rw [← hS]; exact hR.1.2.2.1
    have tx := text_ok hr hT
    obtain ⟨I8, hI8⟩ : ∃ I : Nat → PP, I = (fun n lv st M' => ∃ t, lv = [(0, .ref 3), (1, .ref r), (2, .int (nI op)), (3, .int (nI t))] ∧ st = [] ∧ t ≤ 160 ∧ n = 161 - t ∧ (FlO (FL 6 S V op i) M M' r m' i f ∨ (f = -1 ∧ GdO (fun j c => GL 6 S V op i j c ∧ True ∧ i + t + 1 ≤ j) M M' r m' i sz))) := ⟨_, rfl⟩
    obtain ⟨E8, hE8⟩ : ∃ E : PP, E = (fun lv st M => ∃ n, I8 n lv st M) := ⟨_, rfl⟩
    have iE8 : ∀ n lv st M, I8 n lv st M → E8 lv st M := fun n lv st M h => by rw [hE8]; exact ⟨n, h⟩
    have L8 : Sj p l e (8 * (k + 1) + 1) s m args below meth c 4 g (MQ below (cQc g Q) args s 0 0 (gA g)) 8 E8 := by
      rw [hE8]
      refine s_ex (s_loop I8 (fun K8 k8 => WX3_term_8 C ih_X3_one (by omega) (t_X3_go hr) (by omega) (t_X4_add hr) (by omega) k8) ?_)
      intro n lv st M1 K8 hK8 hI; rw [hI8] at hI; obtain ⟨t, rfl, rfl, ht, rfl, hor⟩ := hI
      unfold BX3_term_8
      generalize hB33 : BX3_term_33 g Q (U_X3_one (k + 1) g) (T_X3_go g) (T_X4_add g) K8 = B33
      simp only [U_X3_one, T_X3_go, T_X4_add, i_const, i_lconst, i_iload, i_aload, i_lload, i_istore, i_astore, i_lstore, i_iinc, i_bin, i_div, i_un, i_i2l, i_l2i, i_lbin, i_lcmp, i_if, i_icmp, i_dup, i_dup_x1, i_dup2, i_pop, i_geti, i_getr, i_getd, i_puti, i_putz, i_putd, i_iald, i_bald, i_aald, i_iast, i_bast, i_alen, i_keep, i_ret, i_retz, i_reta, i_retl, i_retv, i_callv, i_callk, i_calls, i_mm, i_copy, i_under, i_undld, i_ldcs, i_sw, q_swc0, q_swc1, q_lg0, q_lg1, q_lent0, q_lent1, lset, lset2, q_lins0, q_lins1, q_ldel0, q_ldel1, q_ldel20, q_ldel21, q_lkeep0, q_lkeep1, q_memb0, q_memb1, cat2, Nat.reduceBEq, decide_true, decide_false, decide_eq_true_eq, cond_true, cond_false, Bool.and_true, Bool.and_false, Bool.true_and, Bool.false_and, f_iadd, f_isub, f_imul, f_ishl, f_ishr, f_iushr, f_iand, f_ior, f_idiv, f_irem, f_ineg, f_i2b, f_i2s, f_ladd, f_lmul, c_eq, c_ne, c_lt, c_ge, c_gt, c_le, cc_eq, cc_ne, cc_lt, cc_ge, cc_gt, cc_le, rfo, aof, csum, Value.category, List.take, List.drop, List.reverse, List.reverseAux, List.map, List.sum_cons, List.sum_nil, List.cons_append, List.nil_append, Option.toList, List.mem_cons, List.not_mem_nil, List.length_cons, List.length_nil, reduceIte, Nat.reduceEqDiff, Nat.reduceAdd, Nat.reduceLeDiff, Nat.reduceLT, a_day, Nat.zero_ne_one, Nat.one_ne_zero, false_and, and_false, true_and, and_true, or_false, false_or, or_true, true_or, not_true_eq_false, not_false_eq_true, Nat.zero_add, Nat.add_zero, Nat.le_refl, Nat.lt_irrefl, Nat.zero_lt_succ, Nat.zero_le, forall_const, List.cons.injEq, Value.int.injEq, Value.ref.injEq, Value.long.injEq, and_assoc, exists_and_left, exists_eq_left']
      try simp only [forall_eq]
      rcases hor with hfl | ⟨hf, hgd⟩
      · obtain ⟨f1, sz1, hR1, hf1⟩ := hfl.st
        have e5 : M1 5 = S := by rw [YP_row hT hfl.1 5 (by omega), hS]
        rw [hR1.2.1, nI_clamp (by omega), e5, h50]
        refine ⟨fun _ => h M1 (Or.inl hfl), fun _ => ⟨r_3 hr, r_3 hr, r_5 hr, v_5 hm (Nat.le_refl _), fun _ => h M1 (Or.inl hfl), fun q => absurd (by decide) q⟩⟩
      · obtain ⟨hs1, j, c1, hj, hR1, hcl, hq, hq2, hw, hG, hpt, htj⟩ := hgd
        have hjm := hR1.2.2.1
        have e5 : M1 5 = S := by rw [YP_row hT hs1 5 (by omega), hS]
        have e6 : M1 6 = V := by rw [YP_row hT hs1 6 (by omega), hV]
        rw [hR1.2.1, nI_clamp (by omega), e5, c160', nI_leI (a := 160) (by decide) (by omega)]
        refine ⟨fun q => by omega, fun _ => ⟨r_3 hr, r_3 hr, r_5 hr, v_5 hm hjm, fun q => ?_, fun q => ?_⟩⟩
        · exact h M1 (Or.inr ⟨hf, hs1, j, c1, hj, hR1, hcl, hq, hq2, hw, hG, q⟩)
        · have hSj : S j = 42 := Decidable.not_not.mp q
          have hjl : j < m' := by
            rcases Nat.lt_or_ge j m' with w | w
            · exact w
            · have : j = m' := by omega
              rw [this, h50] at hSj; exact absurd hSj (by decide)
          obtain ⟨hR2, hs2⟩ := hR1.go hT hjl
          have hszi : sz ≤ i := hR.2.2.2.2.2.2.1 hf
          refine ⟨(r_3 hr).1, (r_3 hr).2.1, m', hR1.1.1, j, rfl, hm, hjm, fun _ => ?_, fun w => by omega⟩
          subst hB33
          unfold BX3_term_33
          generalize hB39 : BX3_term_39 g Q (U_X3_one (k + 1) g) (T_X3_go g) (T_X4_add g) K8 = B39
          simp only [U_X3_one, T_X3_go, T_X4_add, i_const, i_lconst, i_iload, i_aload, i_lload, i_istore, i_astore, i_lstore, i_iinc, i_bin, i_div, i_un, i_i2l, i_l2i, i_lbin, i_lcmp, i_if, i_icmp, i_dup, i_dup_x1, i_dup2, i_pop, i_geti, i_getr, i_getd, i_puti, i_putz, i_putd, i_iald, i_bald, i_aald, i_iast, i_bast, i_alen, i_keep, i_ret, i_retz, i_reta, i_retl, i_retv, i_callv, i_callk, i_calls, i_mm, i_copy, i_under, i_undld, i_ldcs, i_sw, q_swc0, q_swc1, q_lg0, q_lg1, q_lent0, q_lent1, lset, lset2, q_lins0, q_lins1, q_ldel0, q_ldel1, q_ldel20, q_ldel21, q_lkeep0, q_lkeep1, q_memb0, q_memb1, cat2, Nat.reduceBEq, decide_true, decide_false, decide_eq_true_eq, cond_true, cond_false, Bool.and_true, Bool.and_false, Bool.true_and, Bool.false_and, f_iadd, f_isub, f_imul, f_ishl, f_ishr, f_iushr, f_iand, f_ior, f_idiv, f_irem, f_ineg, f_i2b, f_i2s, f_ladd, f_lmul, c_eq, c_ne, c_lt, c_ge, c_gt, c_le, cc_eq, cc_ne, cc_lt, cc_ge, cc_gt, cc_le, rfo, aof, csum, Value.category, List.take, List.drop, List.reverse, List.reverseAux, List.map, List.sum_cons, List.sum_nil, List.cons_append, List.nil_append, Option.toList, List.mem_cons, List.not_mem_nil, List.length_cons, List.length_nil, reduceIte, Nat.reduceEqDiff, Nat.reduceAdd, Nat.reduceLeDiff, Nat.reduceLT, a_day, Nat.zero_ne_one, Nat.one_ne_zero, false_and, and_false, true_and, and_true, or_false, false_or, or_true, true_or, not_true_eq_false, not_false_eq_true, Nat.zero_add, Nat.add_zero, Nat.le_refl, Nat.lt_irrefl, Nat.zero_lt_succ, Nat.zero_le, forall_const, List.cons.injEq, Value.int.injEq, Value.ref.injEq, Value.long.injEq, and_assoc, exists_and_left, exists_eq_left']
          try simp only [forall_eq]
          have e52 : mset M1 3 6 (nI (j + 1)) 5 = S := by rw [YP_row hT hs2 5 (by omega), e5]
          have e62 : mset M1 3 6 (nI (j + 1)) 6 = V := by rw [YP_row hT hs2 6 (by omega), e6]
          refine ⟨(r_3 hr).1, (r_3 hr).2.1, r, op, m', j + 1, sz + c1.length, -1, rfl, hT, hop, hk, hR2, fun M3 hM3 => ?_⟩
          rw [e52, e62] at hM3
          subst hB39
          unfold BX3_term_39
          simp only [U_X3_one, T_X3_go, T_X4_add, i_const, i_lconst, i_iload, i_aload, i_lload, i_istore, i_astore, i_lstore, i_iinc, i_bin, i_div, i_un, i_i2l, i_l2i, i_lbin, i_lcmp, i_if, i_icmp, i_dup, i_dup_x1, i_dup2, i_pop, i_geti, i_getr, i_getd, i_puti, i_putz, i_putd, i_iald, i_bald, i_aald, i_iast, i_bast, i_alen, i_keep, i_ret, i_retz, i_reta, i_retl, i_retv, i_callv, i_callk, i_calls, i_mm, i_copy, i_under, i_undld, i_ldcs, i_sw, q_swc0, q_swc1, q_lg0, q_lg1, q_lent0, q_lent1, lset, lset2, q_lins0, q_lins1, q_ldel0, q_ldel1, q_ldel20, q_ldel21, q_lkeep0, q_lkeep1, q_memb0, q_memb1, cat2, Nat.reduceBEq, decide_true, decide_false, decide_eq_true_eq, cond_true, cond_false, Bool.and_true, Bool.and_false, Bool.true_and, Bool.false_and, f_iadd, f_isub, f_imul, f_ishl, f_ishr, f_iushr, f_iand, f_ior, f_idiv, f_irem, f_ineg, f_i2b, f_i2s, f_ladd, f_lmul, c_eq, c_ne, c_lt, c_ge, c_gt, c_le, cc_eq, cc_ne, cc_lt, cc_ge, cc_gt, cc_le, rfo, aof, csum, Value.category, List.take, List.drop, List.reverse, List.reverseAux, List.map, List.sum_cons, List.sum_nil, List.cons_append, List.nil_append, Option.toList, List.mem_cons, List.not_mem_nil, List.length_cons, List.length_nil, reduceIte, Nat.reduceEqDiff, Nat.reduceAdd, Nat.reduceLeDiff, Nat.reduceLT, a_day, Nat.zero_ne_one, Nat.one_ne_zero, false_and, and_false, true_and, and_true, or_false, false_or, or_true, true_or, not_true_eq_false, not_false_eq_true, Nat.zero_add, Nat.add_zero, Nat.le_refl, Nat.lt_irrefl, Nat.zero_lt_succ, Nat.zero_le, forall_const, List.cons.injEq, Value.int.injEq, Value.ref.injEq, Value.long.injEq, and_assoc, exists_and_left, exists_eq_left']
          try simp only [forall_eq]
          rw [nI_1]
          have fin : ∀ M4, (FlO (FL 6 S V op i) M M4 r m' i f ∨ (f = -1 ∧ GdO (fun j c => GL 6 S V op i j c ∧ True ∧ i + (t + 1) + 1 ≤ j) M M4 r m' i sz)) → K8 [(0, .ref 3), (1, .ref r), (2, .int (nI op)), (3, .int (nI (t + 1)))] [] M4 := by
            intro M4 hM4
            refine hK8 (161 - (t + 1)) _ _ _ (by omega) ?_
            rw [hI8]
            exact ⟨t + 1, rfl, rfl, by omega, rfl, hM4⟩
          rcases hM3 with hfl3 | ⟨-, hgd3⟩
          · have hflA : FlO (FL 6 S V op i) M M3 r m' i f := by
              obtain ⟨hs3, f3, sz3, hR3, g1, g2, g3⟩ := hfl3
              refine ⟨(hs1.tr hs2).tr hs3, f3, sz3, hR3, g1, fun w => absurd hf w, fun _ => ?_⟩
              obtain ⟨k', hk1, hk2, hF, hfe⟩ := g3 rfl
              refine ⟨k', by omega, hk2, bin_fail (sg := 8) (by omega) rfl (fun _ => rfl) (by rw [hSj]; decide) (fun cm => by rw [hSj]; rfl) (by decide) (by omega) (by omega) hG hF.L, ?_⟩
              rw [hfe, YP_row hT hs2 7 (by omega), YP_row hT hs1 7 (by omega)]
            obtain ⟨f3, sz3, hR3, hf3⟩ := hflA.st
            exact ⟨tx.1.1, tx.1.2.1, hT, sz3, hR3.2.2.2.2.1, hR3.2.2.2.2.2.1, fun w => fin _ (Or.inl (hflA.add hT _ sz3 hR3.2.2.2.2.1 w)), fun _ => fin _ (Or.inl hflA)⟩
          · obtain ⟨hs3, j2, c2, hj2, hR3, hcl2, gq, gq2, hw2, hG2⟩ := hgd3
            obtain ⟨h160, hgo⟩ := GdO.cat (G := fun j c => True) (G' := fun j c => GL 6 S V op i j c ∧ True ∧ i + (t + 1) + 1 ≤ j) hT (x := 8) (by decide) hs1 hj hR1 hcl hq hq2 hw hs2 (fun q => by rw [ms_q (by omega)]) hs3 hj2 hR3 hcl2 gq gq2 hw2 ⟨bin_step (sg := 8) (by omega) rfl (fun _ => rfl) (by rw [hSj]; decide) (fun cm => by rw [hSj]; rfl) (by decide) (by omega) (by omega) hG hG2.L, trivial, by omega⟩ hszi
            exact ⟨tx.1.1, tx.1.2.1, hT, sz + c1.length + c2.length, hR3.2.2.2.2.1, hR3.2.2.2.2.2.1, fun _ => fin _ (Or.inr ⟨hf, hgo⟩), fun w => by omega⟩
    refine s_of (fun lv st M0 hs => ?_) (WX3_term_0 C ih_X3_one (by omega) (t_X3_go hr) (by omega) (t_X4_add hr) (by omega) L8)
    obtain ⟨rfl, rfl, rfl⟩ := hs
    unfold BX3_term_0
    simp only [U_X3_one, T_X3_go, T_X4_add, i_const, i_lconst, i_iload, i_aload, i_lload, i_istore, i_astore, i_lstore, i_iinc, i_bin, i_div, i_un, i_i2l, i_l2i, i_lbin, i_lcmp, i_if, i_icmp, i_dup, i_dup_x1, i_dup2, i_pop, i_geti, i_getr, i_getd, i_puti, i_putz, i_putd, i_iald, i_bald, i_aald, i_iast, i_bast, i_alen, i_keep, i_ret, i_retz, i_reta, i_retl, i_retv, i_callv, i_callk, i_calls, i_mm, i_copy, i_under, i_undld, i_ldcs, i_sw, q_swc0, q_swc1, q_lg0, q_lg1, q_lent0, q_lent1, lset, lset2, q_lins0, q_lins1, q_ldel0, q_ldel1, q_ldel20, q_ldel21, q_lkeep0, q_lkeep1, q_memb0, q_memb1, cat2, Nat.reduceBEq, decide_true, decide_false, decide_eq_true_eq, cond_true, cond_false, Bool.and_true, Bool.and_false, Bool.true_and, Bool.false_and, f_iadd, f_isub, f_imul, f_ishl, f_ishr, f_iushr, f_iand, f_ior, f_idiv, f_irem, f_ineg, f_i2b, f_i2s, f_ladd, f_lmul, c_eq, c_ne, c_lt, c_ge, c_gt, c_le, cc_eq, cc_ne, cc_lt, cc_ge, cc_gt, cc_le, rfo, aof, csum, Value.category, List.take, List.drop, List.reverse, List.reverseAux, List.map, List.sum_cons, List.sum_nil, List.cons_append, List.nil_append, Option.toList, List.mem_cons, List.not_mem_nil, List.length_cons, List.length_nil, reduceIte, Nat.reduceEqDiff, Nat.reduceAdd, Nat.reduceLeDiff, Nat.reduceLT, a_day, Nat.zero_ne_one, Nat.one_ne_zero, false_and, and_false, true_and, and_true, or_false, false_or, or_true, true_or, not_true_eq_false, not_false_eq_true, Nat.zero_add, Nat.add_zero, Nat.le_refl, Nat.lt_irrefl, Nat.zero_lt_succ, Nat.zero_le, forall_const, List.cons.injEq, Value.int.injEq, Value.ref.injEq, Value.long.injEq, and_assoc, exists_and_left, exists_eq_left']
    try simp only [forall_eq]
    refine ⟨(r_3 hr).1, (r_3 hr).2.1, r, op, m', i, sz, f, rfl, hT, hop, hk, hR, fun M1 hM1 => ?_⟩
    rw [hS, hV] at hM1
    refine iE8 (161 - 0) _ _ _ ?_
    rw [hI8]
    refine ⟨0, rfl, rfl, by omega, rfl, ?_⟩
    rcases hM1 with q | ⟨hf, q⟩
    · exact Or.inl (q.mono fun k _ q => q.L.mono (by decide))
    · exact Or.inr ⟨hf, q.mono fun j c hj q => ⟨q.L.mono (by decide), trivial, by omega⟩⟩
set_option maxRecDepth 100000 in
set_option maxHeartbeats 2000000 in
theorem u_X3_both {l : Launch} {g : WG} (hr : Reg g 3 32) (k : Nat) (ih_X3_denial : Ct l g yX3_denial cX3_denial 3 ((Option.none : Option FieldType)) (8 * (k + 1) + 4) (U_X3_denial (k + 1) g)) : Ct l g yX3_both cX3_both 4 ((Option.none : Option FieldType)) (8 * (k + 1) + 5) (U_X3_both (k + 1) g) := by
  refine Ct.of (by decide) (fun as M Q h => ?_) (fun p e s m args below meth c as M Q h C => ?_)
  · obtain ⟨r, op, m', i, sz, f, rfl, hT, hop, hk, hR, h⟩ := h; exact ⟨by simp, by simp [Value.category]⟩
  · obtain ⟨r, op, m', i, sz, f, rfl, hT, hop, hk, hR, h⟩ := h
    have h8 := isT_8 hT
    obtain ⟨S, hS⟩ : ∃ S, M 5 = S := ⟨_, rfl⟩
    obtain ⟨V, hV⟩ : ∃ V, M 6 = V := ⟨_, rfl⟩
    rw [hS, hV] at h
    have hm := hR.1.2.1
    have h50 : S m' = 0 := by rw [← hS]; exact hR.1.2.2.1
    have tx := text_ok hr hT
    obtain ⟨I8, hI8⟩ : ∃ I : Nat → PP, I = (fun n lv st M' => ∃ t, lv = [(0, .ref 3), (1, .ref r), (2, .int (nI op)), (3, .int (nI t))] ∧ st = [] ∧ t ≤ 160 ∧ n = 161 - t ∧ (FlO (FB 2 S V op i) M M' r m' i f ∨ (f = -1 ∧ GdO (fun j c => GB 2 S V op i j c ∧ fs (S j) ∧ i + t + 1 ≤ j) M M' r m' i sz))) := ⟨_, rfl⟩
    obtain ⟨E8, hE8⟩ : ∃ E : PP, E = (fun lv st M => ∃ n, I8 n lv st M) := ⟨_, rfl⟩
    have iE8 : ∀ n lv st M, I8 n lv st M → E8 lv st M := fun n lv st M h => by rw [hE8]; exact ⟨n, h⟩
    have L8 : Sj p l e (8 * (k + 1) + 5) s m args below meth c 4 g (MQ below (cQc g Q) args s 0 0 (gA g)) 8 E8 := by
      rw [hE8]
      refine s_ex (s_loop I8 (fun K8 k8 => WX3_both_8 C ih_X3_denial (by omega) (t_X3_go hr) (by omega) (t_X4_add hr) (by omega) k8) ?_)
      intro n lv st M1 K8 hK8 hI; rw [hI8] at hI; obtain ⟨t, rfl, rfl, ht, rfl, hor⟩ := hI
      unfold BX3_both_8
      generalize hB33 : BX3_both_33 g Q (U_X3_denial (k + 1) g) (T_X3_go g) (T_X4_add g) K8 = B33
      simp only [U_X3_denial, T_X3_go, T_X4_add, i_const, i_lconst, i_iload, i_aload, i_lload, i_istore, i_astore, i_lstore, i_iinc, i_bin, i_div, i_un, i_i2l, i_l2i, i_lbin, i_lcmp, i_if, i_icmp, i_dup, i_dup_x1, i_dup2, i_pop, i_geti, i_getr, i_getd, i_puti, i_putz, i_putd, i_iald, i_bald, i_aald, i_iast, i_bast, i_alen, i_keep, i_ret, i_retz, i_reta, i_retl, i_retv, i_callv, i_callk, i_calls, i_mm, i_copy, i_under, i_undld, i_ldcs, i_sw, q_swc0, q_swc1, q_lg0, q_lg1, q_lent0, q_lent1, lset, lset2, q_lins0, q_lins1, q_ldel0, q_ldel1, q_ldel20, q_ldel21, q_lkeep0, q_lkeep1, q_memb0, q_memb1, cat2, Nat.reduceBEq, decide_true, decide_false, decide_eq_true_eq, cond_true, cond_false, Bool.and_true, Bool.and_false, Bool.true_and, Bool.false_and, f_iadd, f_isub, f_imul, f_ishl, f_ishr, f_iushr, f_iand, f_ior, f_idiv, f_irem, f_ineg, f_i2b, f_i2s, f_ladd, f_lmul, c_eq, c_ne, c_lt, c_ge, c_gt, c_le, cc_eq, cc_ne, cc_lt, cc_ge, cc_gt, cc_le, rfo, aof, csum, Value.category, List.take, List.drop, List.reverse, List.reverseAux, List.map, List.sum_cons, List.sum_nil, List.cons_append, List.nil_append, Option.toList, List.mem_cons, List.not_mem_nil, List.length_cons, List.length_nil, reduceIte, Nat.reduceEqDiff, Nat.reduceAdd, Nat.reduceLeDiff, Nat.reduceLT, a_day, Nat.zero_ne_one, Nat.one_ne_zero, false_and, and_false, true_and, and_true, or_false, false_or, or_true, true_or, not_true_eq_false, not_false_eq_true, Nat.zero_add, Nat.add_zero, Nat.le_refl, Nat.lt_irrefl, Nat.zero_lt_succ, Nat.zero_le, forall_const, List.cons.injEq, Value.int.injEq, Value.ref.injEq, Value.long.injEq, and_assoc, exists_and_left, exists_eq_left']
      try simp only [forall_eq]
      rcases hor with hfl | ⟨hf, hgd⟩
      · obtain ⟨f1, sz1, hR1, hf1⟩ := hfl.st
        have e5 : M1 5 = S := by rw [YP_row hT hfl.1 5 (by omega), hS]
        rw [hR1.2.1, nI_clamp (by omega), e5, h50]
        refine ⟨fun _ => h M1 (Or.inl hfl), fun _ => ⟨r_3 hr, r_3 hr, r_5 hr, v_5 hm (Nat.le_refl _), fun _ => h M1 (Or.inl hfl), fun q => absurd (by decide) q⟩⟩
      · obtain ⟨hs1, j, c1, hj, hR1, hcl, hq, hq2, hw, hG, hpt, htj⟩ := hgd
        have hjm := hR1.2.2.1
        have e5 : M1 5 = S := by rw [YP_row hT hs1 5 (by omega), hS]
        have e6 : M1 6 = V := by rw [YP_row hT hs1 6 (by omega), hV]
        rw [hR1.2.1, nI_clamp (by omega), e5, c160', nI_leI (a := 160) (by decide) (by omega)]
        refine ⟨fun q => by omega, fun _ => ⟨r_3 hr, r_3 hr, r_5 hr, v_5 hm hjm, fun q => ?_, fun q => ?_⟩⟩
        · exact h M1 (Or.inr ⟨hf, hs1, j, c1, hj, hR1, hcl, hq, hq2, hw, hG, ⟨hpt, q⟩⟩)
        · have hSj : S j = 8 := Decidable.not_not.mp q
          have hjl : j < m' := by
            rcases Nat.lt_or_ge j m' with w | w
            · exact w
            · have : j = m' := by omega
              rw [this, h50] at hSj; exact absurd hSj (by decide)
          obtain ⟨hR2, hs2⟩ := hR1.go hT hjl
          have hszi : sz ≤ i := hR.2.2.2.2.2.2.1 hf
          refine ⟨(r_3 hr).1, (r_3 hr).2.1, m', hR1.1.1, j, rfl, hm, hjm, fun _ => ?_, fun w => by omega⟩
          subst hB33
          unfold BX3_both_33
          generalize hB39 : BX3_both_39 g Q (U_X3_denial (k + 1) g) (T_X3_go g) (T_X4_add g) K8 = B39
          simp only [U_X3_denial, T_X3_go, T_X4_add, i_const, i_lconst, i_iload, i_aload, i_lload, i_istore, i_astore, i_lstore, i_iinc, i_bin, i_div, i_un, i_i2l, i_l2i, i_lbin, i_lcmp, i_if, i_icmp, i_dup, i_dup_x1, i_dup2, i_pop, i_geti, i_getr, i_getd, i_puti, i_putz, i_putd, i_iald, i_bald, i_aald, i_iast, i_bast, i_alen, i_keep, i_ret, i_retz, i_reta, i_retl, i_retv, i_callv, i_callk, i_calls, i_mm, i_copy, i_under, i_undld, i_ldcs, i_sw, q_swc0, q_swc1, q_lg0, q_lg1, q_lent0, q_lent1, lset, lset2, q_lins0, q_lins1, q_ldel0, q_ldel1, q_ldel20, q_ldel21, q_lkeep0, q_lkeep1, q_memb0, q_memb1, cat2, Nat.reduceBEq, decide_true, decide_false, decide_eq_true_eq, cond_true, cond_false, Bool.and_true, Bool.and_false, Bool.true_and, Bool.false_and, f_iadd, f_isub, f_imul, f_ishl, f_ishr, f_iushr, f_iand, f_ior, f_idiv, f_irem, f_ineg, f_i2b, f_i2s, f_ladd, f_lmul, c_eq, c_ne, c_lt, c_ge, c_gt, c_le, cc_eq, cc_ne, cc_lt, cc_ge, cc_gt, cc_le, rfo, aof, csum, Value.category, List.take, List.drop, List.reverse, List.reverseAux, List.map, List.sum_cons, List.sum_nil, List.cons_append, List.nil_append, Option.toList, List.mem_cons, List.not_mem_nil, List.length_cons, List.length_nil, reduceIte, Nat.reduceEqDiff, Nat.reduceAdd, Nat.reduceLeDiff, Nat.reduceLT, a_day, Nat.zero_ne_one, Nat.one_ne_zero, false_and, and_false, true_and, and_true, or_false, false_or, or_true, true_or, not_true_eq_false, not_false_eq_true, Nat.zero_add, Nat.add_zero, Nat.le_refl, Nat.lt_irrefl, Nat.zero_lt_succ, Nat.zero_le, forall_const, List.cons.injEq, Value.int.injEq, Value.ref.injEq, Value.long.injEq, and_assoc, exists_and_left, exists_eq_left']
          try simp only [forall_eq]
          have e52 : mset M1 3 6 (nI (j + 1)) 5 = S := by rw [YP_row hT hs2 5 (by omega), e5]
          have e62 : mset M1 3 6 (nI (j + 1)) 6 = V := by rw [YP_row hT hs2 6 (by omega), e6]
          refine ⟨(r_3 hr).1, (r_3 hr).2.1, r, op, m', j + 1, sz + c1.length, -1, rfl, hT, hop, hk, hR2, fun M3 hM3 => ?_⟩
          rw [e52, e62] at hM3
          subst hB39
          unfold BX3_both_39
          simp only [U_X3_denial, T_X3_go, T_X4_add, i_const, i_lconst, i_iload, i_aload, i_lload, i_istore, i_astore, i_lstore, i_iinc, i_bin, i_div, i_un, i_i2l, i_l2i, i_lbin, i_lcmp, i_if, i_icmp, i_dup, i_dup_x1, i_dup2, i_pop, i_geti, i_getr, i_getd, i_puti, i_putz, i_putd, i_iald, i_bald, i_aald, i_iast, i_bast, i_alen, i_keep, i_ret, i_retz, i_reta, i_retl, i_retv, i_callv, i_callk, i_calls, i_mm, i_copy, i_under, i_undld, i_ldcs, i_sw, q_swc0, q_swc1, q_lg0, q_lg1, q_lent0, q_lent1, lset, lset2, q_lins0, q_lins1, q_ldel0, q_ldel1, q_ldel20, q_ldel21, q_lkeep0, q_lkeep1, q_memb0, q_memb1, cat2, Nat.reduceBEq, decide_true, decide_false, decide_eq_true_eq, cond_true, cond_false, Bool.and_true, Bool.and_false, Bool.true_and, Bool.false_and, f_iadd, f_isub, f_imul, f_ishl, f_ishr, f_iushr, f_iand, f_ior, f_idiv, f_irem, f_ineg, f_i2b, f_i2s, f_ladd, f_lmul, c_eq, c_ne, c_lt, c_ge, c_gt, c_le, cc_eq, cc_ne, cc_lt, cc_ge, cc_gt, cc_le, rfo, aof, csum, Value.category, List.take, List.drop, List.reverse, List.reverseAux, List.map, List.sum_cons, List.sum_nil, List.cons_append, List.nil_append, Option.toList, List.mem_cons, List.not_mem_nil, List.length_cons, List.length_nil, reduceIte, Nat.reduceEqDiff, Nat.reduceAdd, Nat.reduceLeDiff, Nat.reduceLT, a_day, Nat.zero_ne_one, Nat.one_ne_zero, false_and, and_false, true_and, and_true, or_false, false_or, or_true, true_or, not_true_eq_false, not_false_eq_true, Nat.zero_add, Nat.add_zero, Nat.le_refl, Nat.lt_irrefl, Nat.zero_lt_succ, Nat.zero_le, forall_const, List.cons.injEq, Value.int.injEq, Value.ref.injEq, Value.long.injEq, and_assoc, exists_and_left, exists_eq_left']
          try simp only [forall_eq]
          rw [nI_1]
          have fin : ∀ M4, (FlO (FB 2 S V op i) M M4 r m' i f ∨ (f = -1 ∧ GdO (fun j c => GB 2 S V op i j c ∧ fs (S j) ∧ i + (t + 1) + 1 ≤ j) M M4 r m' i sz)) → K8 [(0, .ref 3), (1, .ref r), (2, .int (nI op)), (3, .int (nI (t + 1)))] [] M4 := by
            intro M4 hM4
            refine hK8 (161 - (t + 1)) _ _ _ (by omega) ?_
            rw [hI8]
            exact ⟨t + 1, rfl, rfl, by omega, rfl, hM4⟩
          rcases hM3 with hfl3 | ⟨-, hgd3⟩
          · have hflA : FlO (FB 2 S V op i) M M3 r m' i f := by
              obtain ⟨hs3, f3, sz3, hR3, g1, g2, g3⟩ := hfl3
              refine ⟨(hs1.tr hs2).tr hs3, f3, sz3, hR3, g1, fun w => absurd hf w, fun _ => ?_⟩
              obtain ⟨k', hk1, hk2, hF, hfe⟩ := g3 rfl
              refine ⟨k', by omega, hk2, boo_fail (sg := 11) (by omega) rfl (fun _ => rfl) (by rw [hSj]; decide) (fun cm => by rw [hSj]; rfl) (by decide) (by omega) (by omega) hG hF.B, ?_⟩
              rw [hfe, YP_row hT hs2 7 (by omega), YP_row hT hs1 7 (by omega)]
            obtain ⟨f3, sz3, hR3, hf3⟩ := hflA.st
            exact ⟨tx.1.1, tx.1.2.1, hT, sz3, hR3.2.2.2.2.1, hR3.2.2.2.2.2.1, fun w => fin _ (Or.inl (hflA.add hT _ sz3 hR3.2.2.2.2.1 w)), fun _ => fin _ (Or.inl hflA)⟩
          · obtain ⟨hs3, j2, c2, hj2, hR3, hcl2, gq, gq2, hw2, hG2, hfo2⟩ := hgd3
            obtain ⟨h160, hgo⟩ := GdO.cat (G := fun j c => True) (G' := fun j c => GB 2 S V op i j c ∧ fs (S j) ∧ i + (t + 1) + 1 ≤ j) hT (x := 11) (by decide) hs1 hj hR1 hcl hq hq2 hw hs2 (fun q => by rw [ms_q (by omega)]) hs3 hj2 hR3 hcl2 gq gq2 hw2 ⟨boo_step (sg := 11) (by omega) rfl (fun _ => rfl) (by rw [hSj]; decide) (fun cm => by rw [hSj]; rfl) (by decide) (by omega) (by omega) hG hG2.B, hfo2, by omega⟩ hszi
            exact ⟨tx.1.1, tx.1.2.1, hT, sz + c1.length + c2.length, hR3.2.2.2.2.1, hR3.2.2.2.2.2.1, fun _ => fin _ (Or.inr ⟨hf, hgo⟩), fun w => by omega⟩
    refine s_of (fun lv st M0 hs => ?_) (WX3_both_0 C ih_X3_denial (by omega) (t_X3_go hr) (by omega) (t_X4_add hr) (by omega) L8)
    obtain ⟨rfl, rfl, rfl⟩ := hs
    unfold BX3_both_0
    simp only [U_X3_denial, T_X3_go, T_X4_add, i_const, i_lconst, i_iload, i_aload, i_lload, i_istore, i_astore, i_lstore, i_iinc, i_bin, i_div, i_un, i_i2l, i_l2i, i_lbin, i_lcmp, i_if, i_icmp, i_dup, i_dup_x1, i_dup2, i_pop, i_geti, i_getr, i_getd, i_puti, i_putz, i_putd, i_iald, i_bald, i_aald, i_iast, i_bast, i_alen, i_keep, i_ret, i_retz, i_reta, i_retl, i_retv, i_callv, i_callk, i_calls, i_mm, i_copy, i_under, i_undld, i_ldcs, i_sw, q_swc0, q_swc1, q_lg0, q_lg1, q_lent0, q_lent1, lset, lset2, q_lins0, q_lins1, q_ldel0, q_ldel1, q_ldel20, q_ldel21, q_lkeep0, q_lkeep1, q_memb0, q_memb1, cat2, Nat.reduceBEq, decide_true, decide_false, decide_eq_true_eq, cond_true, cond_false, Bool.and_true, Bool.and_false, Bool.true_and, Bool.false_and, f_iadd, f_isub, f_imul, f_ishl, f_ishr, f_iushr, f_iand, f_ior, f_idiv, f_irem, f_ineg, f_i2b, f_i2s, f_ladd, f_lmul, c_eq, c_ne, c_lt, c_ge, c_gt, c_le, cc_eq, cc_ne, cc_lt, cc_ge, cc_gt, cc_le, rfo, aof, csum, Value.category, List.take, List.drop, List.reverse, List.reverseAux, List.map, List.sum_cons, List.sum_nil, List.cons_append, List.nil_append, Option.toList, List.mem_cons, List.not_mem_nil, List.length_cons, List.length_nil, reduceIte, Nat.reduceEqDiff, Nat.reduceAdd, Nat.reduceLeDiff, Nat.reduceLT, a_day, Nat.zero_ne_one, Nat.one_ne_zero, false_and, and_false, true_and, and_true, or_false, false_or, or_true, true_or, not_true_eq_false, not_false_eq_true, Nat.zero_add, Nat.add_zero, Nat.le_refl, Nat.lt_irrefl, Nat.zero_lt_succ, Nat.zero_le, forall_const, List.cons.injEq, Value.int.injEq, Value.ref.injEq, Value.long.injEq, and_assoc, exists_and_left, exists_eq_left']
    try simp only [forall_eq]
    refine ⟨(r_3 hr).1, (r_3 hr).2.1, r, op, m', i, sz, f, rfl, hT, hop, hk, hR, fun M1 hM1 => ?_⟩
    rw [hS, hV] at hM1
    refine iE8 (161 - 0) _ _ _ ?_
    rw [hI8]
    refine ⟨0, rfl, rfl, by omega, rfl, ?_⟩
    rcases hM1 with q | ⟨hf, q⟩
    · exact Or.inl (q.mono fun k _ q => q.B.mono (by decide))
    · exact Or.inr ⟨hf, q.mono fun j c hj q => ⟨q.1.B.mono (by decide), q.2, by omega⟩⟩
set_option maxRecDepth 100000 in
set_option maxHeartbeats 2000000 in
theorem u_X3_either {l : Launch} {g : WG} (hr : Reg g 3 32) (k : Nat) (ih_X3_both : Ct l g yX3_both cX3_both 4 ((Option.none : Option FieldType)) (8 * (k + 1) + 5) (U_X3_both (k + 1) g)) : Ct l g yX3_either cX3_either 4 ((Option.none : Option FieldType)) (8 * (k + 1) + 6) (U_X3_either (k + 1) g) := by
  refine Ct.of (by decide) (fun as M Q h => ?_) (fun p e s m args below meth c as M Q h C => ?_)
  · obtain ⟨r, op, m', i, sz, f, rfl, hT, hop, hk, hR, h⟩ := h; exact ⟨by simp, by simp [Value.category]⟩
  · obtain ⟨r, op, m', i, sz, f, rfl, hT, hop, hk, hR, h⟩ := h
    have h8 := isT_8 hT
    obtain ⟨S, hS⟩ : ∃ S, M 5 = S := ⟨_, rfl⟩
    obtain ⟨V, hV⟩ : ∃ V, M 6 = V := ⟨_, rfl⟩
    rw [hS, hV] at h
    have hm := hR.1.2.1
    have h50 : S m' = 0 := by rw [← hS]; exact hR.1.2.2.1
    have tx := text_ok hr hT
    obtain ⟨I8, hI8⟩ : ∃ I : Nat → PP, I = (fun n lv st M' => ∃ t, lv = [(0, .ref 3), (1, .ref r), (2, .int (nI op)), (3, .int (nI t))] ∧ st = [] ∧ t ≤ 160 ∧ n = 161 - t ∧ (FlO (FB 1 S V op i) M M' r m' i f ∨ (f = -1 ∧ GdO (fun j c => GB 1 S V op i j c ∧ fb (S j) ∧ i + t + 1 ≤ j) M M' r m' i sz))) := ⟨_, rfl⟩
    obtain ⟨E8, hE8⟩ : ∃ E : PP, E = (fun lv st M => ∃ n, I8 n lv st M) := ⟨_, rfl⟩
    have iE8 : ∀ n lv st M, I8 n lv st M → E8 lv st M := fun n lv st M h => by rw [hE8]; exact ⟨n, h⟩
    have L8 : Sj p l e (8 * (k + 1) + 6) s m args below meth c 4 g (MQ below (cQc g Q) args s 0 0 (gA g)) 8 E8 := by
      rw [hE8]
      refine s_ex (s_loop I8 (fun K8 k8 => WX3_either_8 C ih_X3_both (by omega) (t_X3_go hr) (by omega) (t_X4_add hr) (by omega) k8) ?_)
      intro n lv st M1 K8 hK8 hI; rw [hI8] at hI; obtain ⟨t, rfl, rfl, ht, rfl, hor⟩ := hI
      unfold BX3_either_8
      generalize hB33 : BX3_either_33 g Q (U_X3_both (k + 1) g) (T_X3_go g) (T_X4_add g) K8 = B33
      simp only [U_X3_both, T_X3_go, T_X4_add, i_const, i_lconst, i_iload, i_aload, i_lload, i_istore, i_astore, i_lstore, i_iinc, i_bin, i_div, i_un, i_i2l, i_l2i, i_lbin, i_lcmp, i_if, i_icmp, i_dup, i_dup_x1, i_dup2, i_pop, i_geti, i_getr, i_getd, i_puti, i_putz, i_putd, i_iald, i_bald, i_aald, i_iast, i_bast, i_alen, i_keep, i_ret, i_retz, i_reta, i_retl, i_retv, i_callv, i_callk, i_calls, i_mm, i_copy, i_under, i_undld, i_ldcs, i_sw, q_swc0, q_swc1, q_lg0, q_lg1, q_lent0, q_lent1, lset, lset2, q_lins0, q_lins1, q_ldel0, q_ldel1, q_ldel20, q_ldel21, q_lkeep0, q_lkeep1, q_memb0, q_memb1, cat2, Nat.reduceBEq, decide_true, decide_false, decide_eq_true_eq, cond_true, cond_false, Bool.and_true, Bool.and_false, Bool.true_and, Bool.false_and, f_iadd, f_isub, f_imul, f_ishl, f_ishr, f_iushr, f_iand, f_ior, f_idiv, f_irem, f_ineg, f_i2b, f_i2s, f_ladd, f_lmul, c_eq, c_ne, c_lt, c_ge, c_gt, c_le, cc_eq, cc_ne, cc_lt, cc_ge, cc_gt, cc_le, rfo, aof, csum, Value.category, List.take, List.drop, List.reverse, List.reverseAux, List.map, List.sum_cons, List.sum_nil, List.cons_append, List.nil_append, Option.toList, List.mem_cons, List.not_mem_nil, List.length_cons, List.length_nil, reduceIte, Nat.reduceEqDiff, Nat.reduceAdd, Nat.reduceLeDiff, Nat.reduceLT, a_day, Nat.zero_ne_one, Nat.one_ne_zero, false_and, and_false, true_and, and_true, or_false, false_or, or_true, true_or, not_true_eq_false, not_false_eq_true, Nat.zero_add, Nat.add_zero, Nat.le_refl, Nat.lt_irrefl, Nat.zero_lt_succ, Nat.zero_le, forall_const, List.cons.injEq, Value.int.injEq, Value.ref.injEq, Value.long.injEq, and_assoc, exists_and_left, exists_eq_left']
      try simp only [forall_eq]
      rcases hor with hfl | ⟨hf, hgd⟩
      · obtain ⟨f1, sz1, hR1, hf1⟩ := hfl.st
        have e5 : M1 5 = S := by rw [YP_row hT hfl.1 5 (by omega), hS]
        rw [hR1.2.1, nI_clamp (by omega), e5, h50]
        refine ⟨fun _ => h M1 (Or.inl hfl), fun _ => ⟨r_3 hr, r_3 hr, r_5 hr, v_5 hm (Nat.le_refl _), fun _ => h M1 (Or.inl hfl), fun q => absurd (by decide) q⟩⟩
      · obtain ⟨hs1, j, c1, hj, hR1, hcl, hq, hq2, hw, hG, hpt, htj⟩ := hgd
        have hjm := hR1.2.2.1
        have e5 : M1 5 = S := by rw [YP_row hT hs1 5 (by omega), hS]
        have e6 : M1 6 = V := by rw [YP_row hT hs1 6 (by omega), hV]
        rw [hR1.2.1, nI_clamp (by omega), e5, c160', nI_leI (a := 160) (by decide) (by omega)]
        refine ⟨fun q => by omega, fun _ => ⟨r_3 hr, r_3 hr, r_5 hr, v_5 hm hjm, fun q => ?_, fun q => ?_⟩⟩
        · exact h M1 (Or.inr ⟨hf, hs1, j, c1, hj, hR1, hcl, hq, hq2, hw, hG, fol_of hpt q⟩)
        · have hSj : S j = 7 := Decidable.not_not.mp q
          have hjl : j < m' := by
            rcases Nat.lt_or_ge j m' with w | w
            · exact w
            · have : j = m' := by omega
              rw [this, h50] at hSj; exact absurd hSj (by decide)
          obtain ⟨hR2, hs2⟩ := hR1.go hT hjl
          have hszi : sz ≤ i := hR.2.2.2.2.2.2.1 hf
          refine ⟨(r_3 hr).1, (r_3 hr).2.1, m', hR1.1.1, j, rfl, hm, hjm, fun _ => ?_, fun w => by omega⟩
          subst hB33
          unfold BX3_either_33
          generalize hB39 : BX3_either_39 g Q (U_X3_both (k + 1) g) (T_X3_go g) (T_X4_add g) K8 = B39
          simp only [U_X3_both, T_X3_go, T_X4_add, i_const, i_lconst, i_iload, i_aload, i_lload, i_istore, i_astore, i_lstore, i_iinc, i_bin, i_div, i_un, i_i2l, i_l2i, i_lbin, i_lcmp, i_if, i_icmp, i_dup, i_dup_x1, i_dup2, i_pop, i_geti, i_getr, i_getd, i_puti, i_putz, i_putd, i_iald, i_bald, i_aald, i_iast, i_bast, i_alen, i_keep, i_ret, i_retz, i_reta, i_retl, i_retv, i_callv, i_callk, i_calls, i_mm, i_copy, i_under, i_undld, i_ldcs, i_sw, q_swc0, q_swc1, q_lg0, q_lg1, q_lent0, q_lent1, lset, lset2, q_lins0, q_lins1, q_ldel0, q_ldel1, q_ldel20, q_ldel21, q_lkeep0, q_lkeep1, q_memb0, q_memb1, cat2, Nat.reduceBEq, decide_true, decide_false, decide_eq_true_eq, cond_true, cond_false, Bool.and_true, Bool.and_false, Bool.true_and, Bool.false_and, f_iadd, f_isub, f_imul, f_ishl, f_ishr, f_iushr, f_iand, f_ior, f_idiv, f_irem, f_ineg, f_i2b, f_i2s, f_ladd, f_lmul, c_eq, c_ne, c_lt, c_ge, c_gt, c_le, cc_eq, cc_ne, cc_lt, cc_ge, cc_gt, cc_le, rfo, aof, csum, Value.category, List.take, List.drop, List.reverse, List.reverseAux, List.map, List.sum_cons, List.sum_nil, List.cons_append, List.nil_append, Option.toList, List.mem_cons, List.not_mem_nil, List.length_cons, List.length_nil, reduceIte, Nat.reduceEqDiff, Nat.reduceAdd, Nat.reduceLeDiff, Nat.reduceLT, a_day, Nat.zero_ne_one, Nat.one_ne_zero, false_and, and_false, true_and, and_true, or_false, false_or, or_true, true_or, not_true_eq_false, not_false_eq_true, Nat.zero_add, Nat.add_zero, Nat.le_refl, Nat.lt_irrefl, Nat.zero_lt_succ, Nat.zero_le, forall_const, List.cons.injEq, Value.int.injEq, Value.ref.injEq, Value.long.injEq, and_assoc, exists_and_left, exists_eq_left']
          try simp only [forall_eq]
          have e52 : mset M1 3 6 (nI (j + 1)) 5 = S := by rw [YP_row hT hs2 5 (by omega), e5]
          have e62 : mset M1 3 6 (nI (j + 1)) 6 = V := by rw [YP_row hT hs2 6 (by omega), e6]
          refine ⟨(r_3 hr).1, (r_3 hr).2.1, r, op, m', j + 1, sz + c1.length, -1, rfl, hT, hop, hk, hR2, fun M3 hM3 => ?_⟩
          rw [e52, e62] at hM3
          subst hB39
          unfold BX3_either_39
          simp only [U_X3_both, T_X3_go, T_X4_add, i_const, i_lconst, i_iload, i_aload, i_lload, i_istore, i_astore, i_lstore, i_iinc, i_bin, i_div, i_un, i_i2l, i_l2i, i_lbin, i_lcmp, i_if, i_icmp, i_dup, i_dup_x1, i_dup2, i_pop, i_geti, i_getr, i_getd, i_puti, i_putz, i_putd, i_iald, i_bald, i_aald, i_iast, i_bast, i_alen, i_keep, i_ret, i_retz, i_reta, i_retl, i_retv, i_callv, i_callk, i_calls, i_mm, i_copy, i_under, i_undld, i_ldcs, i_sw, q_swc0, q_swc1, q_lg0, q_lg1, q_lent0, q_lent1, lset, lset2, q_lins0, q_lins1, q_ldel0, q_ldel1, q_ldel20, q_ldel21, q_lkeep0, q_lkeep1, q_memb0, q_memb1, cat2, Nat.reduceBEq, decide_true, decide_false, decide_eq_true_eq, cond_true, cond_false, Bool.and_true, Bool.and_false, Bool.true_and, Bool.false_and, f_iadd, f_isub, f_imul, f_ishl, f_ishr, f_iushr, f_iand, f_ior, f_idiv, f_irem, f_ineg, f_i2b, f_i2s, f_ladd, f_lmul, c_eq, c_ne, c_lt, c_ge, c_gt, c_le, cc_eq, cc_ne, cc_lt, cc_ge, cc_gt, cc_le, rfo, aof, csum, Value.category, List.take, List.drop, List.reverse, List.reverseAux, List.map, List.sum_cons, List.sum_nil, List.cons_append, List.nil_append, Option.toList, List.mem_cons, List.not_mem_nil, List.length_cons, List.length_nil, reduceIte, Nat.reduceEqDiff, Nat.reduceAdd, Nat.reduceLeDiff, Nat.reduceLT, a_day, Nat.zero_ne_one, Nat.one_ne_zero, false_and, and_false, true_and, and_true, or_false, false_or, or_true, true_or, not_true_eq_false, not_false_eq_true, Nat.zero_add, Nat.add_zero, Nat.le_refl, Nat.lt_irrefl, Nat.zero_lt_succ, Nat.zero_le, forall_const, List.cons.injEq, Value.int.injEq, Value.ref.injEq, Value.long.injEq, and_assoc, exists_and_left, exists_eq_left']
          try simp only [forall_eq]
          rw [nI_1]
          have fin : ∀ M4, (FlO (FB 1 S V op i) M M4 r m' i f ∨ (f = -1 ∧ GdO (fun j c => GB 1 S V op i j c ∧ fb (S j) ∧ i + (t + 1) + 1 ≤ j) M M4 r m' i sz)) → K8 [(0, .ref 3), (1, .ref r), (2, .int (nI op)), (3, .int (nI (t + 1)))] [] M4 := by
            intro M4 hM4
            refine hK8 (161 - (t + 1)) _ _ _ (by omega) ?_
            rw [hI8]
            exact ⟨t + 1, rfl, rfl, by omega, rfl, hM4⟩
          rcases hM3 with hfl3 | ⟨-, hgd3⟩
          · have hflA : FlO (FB 1 S V op i) M M3 r m' i f := by
              obtain ⟨hs3, f3, sz3, hR3, g1, g2, g3⟩ := hfl3
              refine ⟨(hs1.tr hs2).tr hs3, f3, sz3, hR3, g1, fun w => absurd hf w, fun _ => ?_⟩
              obtain ⟨k', hk1, hk2, hF, hfe⟩ := g3 rfl
              refine ⟨k', by omega, hk2, boo_fail (sg := 12) (by omega) rfl (fun _ => rfl) (by rw [hSj]; decide) (fun cm => by rw [hSj]; rfl) (by decide) (by omega) (by omega) hG hF, ?_⟩
              rw [hfe, YP_row hT hs2 7 (by omega), YP_row hT hs1 7 (by omega)]
            obtain ⟨f3, sz3, hR3, hf3⟩ := hflA.st
            exact ⟨tx.1.1, tx.1.2.1, hT, sz3, hR3.2.2.2.2.1, hR3.2.2.2.2.2.1, fun w => fin _ (Or.inl (hflA.add hT _ sz3 hR3.2.2.2.2.1 w)), fun _ => fin _ (Or.inl hflA)⟩
          · obtain ⟨hs3, j2, c2, hj2, hR3, hcl2, gq, gq2, hw2, hG2, hfo2⟩ := hgd3
            obtain ⟨h160, hgo⟩ := GdO.cat (G := fun j c => True) (G' := fun j c => GB 1 S V op i j c ∧ fb (S j) ∧ i + (t + 1) + 1 ≤ j) hT (x := 12) (by decide) hs1 hj hR1 hcl hq hq2 hw hs2 (fun q => by rw [ms_q (by omega)]) hs3 hj2 hR3 hcl2 gq gq2 hw2 ⟨boo_step (sg := 12) (by omega) rfl (fun _ => rfl) (by rw [hSj]; decide) (fun cm => by rw [hSj]; rfl) (by decide) (by omega) (by omega) hG hG2, hfo2, by omega⟩ hszi
            exact ⟨tx.1.1, tx.1.2.1, hT, sz + c1.length + c2.length, hR3.2.2.2.2.1, hR3.2.2.2.2.2.1, fun _ => fin _ (Or.inr ⟨hf, hgo⟩), fun w => by omega⟩
      
    refine s_of (fun lv st M0 hs => ?_) (WX3_either_0 C ih_X3_both (by omega) (t_X3_go hr) (by omega) (t_X4_add hr) (by omega) L8)
    obtain ⟨rfl, rfl, rfl⟩ := hs
    unfold BX3_either_0
    simp only [U_X3_both, T_X3_go, T_X4_add, i_const, i_lconst, i_iload, i_aload, i_lload, i_istore, i_astore, i_lstore, i_iinc, i_bin, i_div, i_un, i_i2l, i_l2i, i_lbin, i_lcmp, i_if, i_icmp, i_dup, i_dup_x1, i_dup2, i_pop, i_geti, i_getr, i_getd, i_puti, i_putz, i_putd, i_iald, i_bald, i_aald, i_iast, i_bast, i_alen, i_keep, i_ret, i_retz, i_reta, i_retl, i_retv, i_callv, i_callk, i_calls, i_mm, i_copy, i_under, i_undld, i_ldcs, i_sw, q_swc0, q_swc1, q_lg0, q_lg1, q_lent0, q_lent1, lset, lset2, q_lins0, q_lins1, q_ldel0, q_ldel1, q_ldel20, q_ldel21, q_lkeep0, q_lkeep1, q_memb0, q_memb1, cat2, Nat.reduceBEq, decide_true, decide_false, decide_eq_true_eq, cond_true, cond_false, Bool.and_true, Bool.and_false, Bool.true_and, Bool.false_and, f_iadd, f_isub, f_imul, f_ishl, f_ishr, f_iushr, f_iand, f_ior, f_idiv, f_irem, f_ineg, f_i2b, f_i2s, f_ladd, f_lmul, c_eq, c_ne, c_lt, c_ge, c_gt, c_le, cc_eq, cc_ne, cc_lt, cc_ge, cc_gt, cc_le, rfo, aof, csum, Value.category, List.take, List.drop, List.reverse, List.reverseAux, List.map, List.sum_cons, List.sum_nil, List.cons_append, List.nil_append, Option.toList, List.mem_cons, List.not_mem_nil, List.length_cons, List.length_nil, reduceIte, Nat.reduceEqDiff, Nat.reduceAdd, Nat.reduceLeDiff, Nat.reduceLT, a_day, Nat.zero_ne_one, Nat.one_ne_zero, false_and, and_false, true_and, and_true, or_false, false_or, or_true, true_or, not_true_eq_false, not_false_eq_true, Nat.zero_add, Nat.add_zero, Nat.le_refl, Nat.lt_irrefl, Nat.zero_lt_succ, Nat.zero_le, forall_const, List.cons.injEq, Value.int.injEq, Value.ref.injEq, Value.long.injEq, and_assoc, exists_and_left, exists_eq_left']
    try simp only [forall_eq]
    refine ⟨(r_3 hr).1, (r_3 hr).2.1, r, op, m', i, sz, f, rfl, hT, hop, hk, hR, fun M1 hM1 => ?_⟩
    rw [hS, hV] at hM1
    refine iE8 (161 - 0) _ _ _ ?_
    rw [hI8]
    refine ⟨0, rfl, rfl, by omega, rfl, ?_⟩
    rcases hM1 with q | ⟨hf, q⟩
    · exact Or.inl (q.mono fun k _ q => q.mono (by decide))
    · exact Or.inr ⟨hf, q.mono fun j c hj q => ⟨q.1.mono (by decide), q.2, by omega⟩⟩
