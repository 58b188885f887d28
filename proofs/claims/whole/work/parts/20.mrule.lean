/-! ===== the model's rule ===== -/
theorem m_ne {M M' : MM} {a : Nat} (hs : Sm (fun x _ => x = 89) M M') (h : ¬ a = 89) : M' a = M a := funext fun j => hs a j h
theorem dm_89 {M M' : MM} (h : Sm (fun x _ => x = 89) M M') (hn : dn (dm M) ≤ 7) : dm M' = dm M := dm_sm h (fun j => by show ¬ 77 = 89; omega) (fun j _ => by show ¬ 76 = 89; omega) (fun f s h0 h7 _ => by show ¬ 77 + f = 89; omega) hn
theorem mseg_eq {M M' : MM} (h85 : M' 85 = M 85) (h86 : M' 86 = M 86) (h87 : M' 87 = M 87) (t p : Nat) : mseg M' t p = mseg M t p := by unfold mseg mb ml; rw [h85, h86, h87]
theorem xm_eq {M M' : MM} (h85 : M' 85 = M 85) (h86 : M' 86 = M 86) (h87 : M' 87 = M 87) : xm M' = xm M := by funext r p; exact mseg_eq h85 h86 h87 _ p
theorem mtx_eq {M M' : MM} (h85 : M' 85 = M 85) (h86 : M' 86 = M 86) (h87 : M' 87 = M 87) {t : Nat} (h : mtx M t) : mtx M' t := by
  intro p hp
  have := h p hp
  rw [mseg_eq h85 h86 h87]
  unfold mb ml at this ⊢
  rw [h85, h86, h87]; exact this
/-- a change that leaves the day and the texts -/
theorem okM.keep {M M' : MM} (h : okM M) (hd : dm M' = dm M) (h9 : M' 76 9 = M 76 9) (h85 : M' 85 = M 85) (h86 : M' 86 = M 86) (h87 : M' 87 = M 87) : okM M' := by
  obtain ⟨T, h1, h2, t, ht, e⟩ := h
  exact ⟨T, by rw [hd]; exact h1, fun t ht => mtx_eq h85 h86 h87 (h2 t ht), t, ht, by rw [h9]; exact e⟩
theorem tr_val : ∀ c, c < 15 → tr (nI c) = (if c ≤ 5 then -1 - nI c else if c = 6 then -17 else if c = 7 then -18 else if c = 8 then -19 else if c = 9 then -15 else if c = 10 then -16 else if c = 11 then -14 else if c = 12 then -13 else if c = 13 then -12 else -11) := by decide +kernel
theorem tr_big {c : Nat} (h : 15 ≤ c) (h2 : c < 20000) : tr (nI c) = nI (c - 15) := by
  unfold tr
  have e : (15 : Int32) = nI 15 := rfl
  rw [e, if_pos (nI_le h (by omega)), pk_sub h]
def T_X6_ruled (g : WG) (as : List Value) (M : MM) (Q : Option Value → MM → Prop) : Prop := ∃ p s j, as = [.ref 76, .int (nI p), .int (nI s), .int j] ∧ p < 3 ∧ okM M ∧ s < dn (dm M) ∧ ∀ M', Sm (fun a _ => a = 89) M M' → Q (some (.int (bnd (rul (xm M) (dm M) p s j) (if p = 2 then 999 else 99)))) M'
set_option maxRecDepth 100000 in
set_option maxHeartbeats 4000000 in
theorem t_X6_ruled {l : Launch} {g : WG} (hg : Full g) : Ct l g yX6_ruled cX6_ruled 8 ((Option.some FieldType.int)) 3 (T_X6_ruled g) := by
  refine Ct.of (by decide) (fun as M Q h => ?_) (fun p e s m args below meth c as M Q h C => ?_)
  · obtain ⟨p', s0, j, rfl, hp, ho, hs0, h⟩ := h; exact ⟨by simp, by simp [Value.category]⟩
  · obtain ⟨p', s0, j, rfl, hp, ho, hs0, h⟩ := h
    have hn := ho.n
    obtain ⟨t, ht, h9, htx, hrix⟩ := ho.rule
    obtain ⟨x1, x2, x3, x3b, x4, x5⟩ := htx p' hp
    obtain ⟨b, hb⟩ : ∃ b, mb M t p' = b := ⟨_, rfl⟩
    obtain ⟨e1, he⟩ : ∃ e1, ml M t p' = e1 := ⟨_, rfl⟩
    obtain ⟨fc, hfc⟩ : ∃ fc, fct (dm M) s0 j = fc := ⟨_, rfl⟩
    obtain ⟨cs, hcs⟩ : ∃ cs, mseg M t p' = cs := ⟨_, rfl⟩
    have hval : rul (xm M) (dm M) p' s0 j = val cs fc := by
      unfold rul
      rw [hrix, hfc, ← hcs]
      show val (mseg M ((8 + 4 * t - 8) / 4) p') fc = _
      rw [show (8 + 4 * t - 8) / 4 = t by omega]
    rw [hval] at h
    rw [hb] at x1
    rw [he] at x2
    rw [hb, he] at x3 x5
    rw [he] at x3b
    rw [hcs] at x4
    have hcs2 : cs = (seg (M 87) b e1).map tr := by rw [← hcs]; unfold mseg; rw [hb, he]
    obtain ⟨I22, hI22⟩ : ∃ I : Nat → PP, I = (fun n lv st M' => ∃ i k, lv = [(0, .ref 76), (1, .int (nI p')), (2, .int (nI s0)), (3, .int j), (4, .int (nI k.length)), (5, .int (nI b)), (6, .int (nI (b + i)))] ∧ st = [] ∧ i ≤ e1 ∧ n = e1 - i ∧ Sm (fun a _ => a = 89) M M' ∧ k.length ≤ i ∧ dls ((seg (M 87) (b + i) (e1 - i)).map tr) k.length = some 1 ∧ vls fc ((seg (M 87) (b + i) (e1 - i)).map tr) k = vls fc cs [] ∧ PS (M' 89) k) := ⟨_, rfl⟩
    obtain ⟨E22, hE22⟩ : ∃ E : PP, E = (fun lv st M => ∃ n, I22 n lv st M) := ⟨_, rfl⟩
    have iE22 : ∀ n lv st M, I22 n lv st M → E22 lv st M := fun n lv st M h => by rw [hE22]; exact ⟨n, h⟩
    have L22 : Sj p l e 3 s m args below meth c 8 g (MQ below (cQc g Q) args s 0 0 (gA g)) 22 E22 := by
      rw [hE22]
      refine s_ex (s_loop I22 (fun K22 k22 => WX6_ruled_22 C (t_X6_both hg) (by decide) (t_X6_nameOf hg) (by decide) (t_X6_bound hg) (by decide) k22) ?_)
      intro n lv st M1 K22 hK22 hI; rw [hI22] at hI; obtain ⟨i, k, rfl, rfl, hie, rfl, hs, hkl, hd, hv, hps⟩ := hI
      unfold BX6_ruled_22
      generalize hB65 : BX6_ruled_65 g Q (T_X6_both g) (T_X6_nameOf g) (T_X6_bound g) K22 = B65
      generalize hB115 : BX6_ruled_115 g Q (T_X6_both g) (T_X6_nameOf g) (T_X6_bound g) K22 = B115
      generalize hB196 : BX6_ruled_196 g Q (T_X6_both g) (T_X6_nameOf g) (T_X6_bound g) K22 = B196
      generalize hB203 : BX6_ruled_203 g Q (T_X6_both g) (T_X6_nameOf g) (T_X6_bound g) K22 = B203
      simp only [T_X6_both, T_X6_nameOf, T_X6_bound, i_const, i_lconst, i_iload, i_aload, i_lload, i_istore, i_astore, i_lstore, i_iinc, i_bin, i_div, i_un, i_i2l, i_l2i, i_lbin, i_lcmp, i_if, i_icmp, i_dup, i_dup_x1, i_dup2, i_pop, i_geti, i_getr, i_getd, i_puti, i_putz, i_putd, i_iald, i_bald, i_aald, i_iast, i_bast, i_alen, i_keep, i_ret, i_retz, i_reta, i_retl, i_retv, i_callv, i_callk, i_calls, i_mm, i_copy, i_under, i_undld, i_ldcs, i_sw, q_swc0, q_swc1, q_lg0, q_lg1, q_lent0, q_lent1, lset, lset2, q_lins0, q_lins1, q_ldel0, q_ldel1, q_ldel20, q_ldel21, q_lkeep0, q_lkeep1, q_memb0, q_memb1, cat2, Nat.reduceBEq, decide_true, decide_false, decide_eq_true_eq, cond_true, cond_false, Bool.and_true, Bool.and_false, Bool.true_and, Bool.false_and, f_iadd, f_isub, f_imul, f_ishl, f_ishr, f_iushr, f_iand, f_ior, f_idiv, f_irem, f_ineg, f_i2b, f_i2s, f_ladd, f_lmul, c_eq, c_ne, c_lt, c_ge, c_gt, c_le, cc_eq, cc_ne, cc_lt, cc_ge, cc_gt, cc_le, rfo, aof, csum, Value.category, List.take, List.drop, List.reverse, List.reverseAux, List.map, List.sum_cons, List.sum_nil, List.cons_append, List.nil_append, Option.toList, List.mem_cons, List.not_mem_nil, List.length_cons, List.length_nil, reduceIte, Nat.reduceEqDiff, Nat.reduceAdd, Nat.reduceLeDiff, Nat.reduceLT, a_day, Nat.zero_ne_one, Nat.one_ne_zero, false_and, and_false, true_and, and_true, or_false, false_or, or_true, true_or, not_true_eq_false, not_false_eq_true, Nat.zero_add, Nat.add_zero, Nat.le_refl, Nat.lt_irrefl, Nat.zero_lt_succ, Nat.zero_le, forall_const, List.cons.injEq, Value.int.injEq, Value.ref.injEq, Value.long.injEq, and_assoc, exists_and_left, exists_eq_left']
      try simp only [forall_eq]
      have n76 : ∀ j, M1 76 j = M 76 j := fun j => by rw [m_ne hs (by decide)]
      have n85 : ∀ j, M1 85 j = M 85 j := fun j => by rw [m_ne hs (by decide)]
      have n86 : ∀ j, M1 86 j = M 86 j := fun j => by rw [m_ne hs (by decide)]
      have n87 : ∀ j, M1 87 j = M 87 j := fun j => by rw [m_ne hs (by decide)]
      have e3 : (3 : Int32) * nI t + nI p' = nI (3 * t + p') := by
        rw [show (3 : Int32) = nI 3 from rfl, pk_mul, nI_add]
      rw [n76, h9, e3, nI_clamp (show 3 * t + p' < 2 ^ 31 by omega), n86, x2, nI_add, nI_clamp (show b + i < 2 ^ 31 by omega), n87]
      refine ⟨m_76 hg, m_76 hg, m_86 hg, vm l_86 (by omega) (by decide), fun z => ?_, fun z => ?_⟩
      · have hie2 : i = e1 := by
          have := (nI_leI (a := b + e1) (b := b + i) (by omega) (by omega)).mp z
          omega
        subst hie2
        rw [Nat.sub_self] at hd hv
        simp only [seg, List.map_nil, dls, vls, Option.some.injEq] at hd hv
        match k, hd with
        | [a], _ =>
          have hva : val cs fc = a := by unfold val; rw [← hv]; rfl
          have e0 : M1 89 0 = a := hps.1
          have := h M1 hs
          rw [hva] at this
          have z0 : (0 : Int32).toNatClampNeg = 0 := rfl
          subst hB203
          unfold BX6_ruled_203
          simp only [T_X6_both, T_X6_nameOf, T_X6_bound, i_const, i_lconst, i_iload, i_aload, i_lload, i_istore, i_astore, i_lstore, i_iinc, i_bin, i_div, i_un, i_i2l, i_l2i, i_lbin, i_lcmp, i_if, i_icmp, i_dup, i_dup_x1, i_dup2, i_pop, i_geti, i_getr, i_getd, i_puti, i_putz, i_putd, i_iald, i_bald, i_aald, i_iast, i_bast, i_alen, i_keep, i_ret, i_retz, i_reta, i_retl, i_retv, i_callv, i_callk, i_calls, i_mm, i_copy, i_under, i_undld, i_ldcs, i_sw, q_swc0, q_swc1, q_lg0, q_lg1, q_lent0, q_lent1, lset, lset2, q_lins0, q_lins1, q_ldel0, q_ldel1, q_ldel20, q_ldel21, q_lkeep0, q_lkeep1, q_memb0, q_memb1, cat2, Nat.reduceBEq, decide_true, decide_false, decide_eq_true_eq, cond_true, cond_false, Bool.and_true, Bool.and_false, Bool.true_and, Bool.false_and, f_iadd, f_isub, f_imul, f_ishl, f_ishr, f_iushr, f_iand, f_ior, f_idiv, f_irem, f_ineg, f_i2b, f_i2s, f_ladd, f_lmul, c_eq, c_ne, c_lt, c_ge, c_gt, c_le, cc_eq, cc_ne, cc_lt, cc_ge, cc_gt, cc_le, rfo, aof, csum, Value.category, List.take, List.drop, List.reverse, List.reverseAux, List.map, List.sum_cons, List.sum_nil, List.cons_append, List.nil_append, Option.toList, List.mem_cons, List.not_mem_nil, List.length_cons, List.length_nil, reduceIte, Nat.reduceEqDiff, Nat.reduceAdd, Nat.reduceLeDiff, Nat.reduceLT, a_day, Nat.zero_ne_one, Nat.one_ne_zero, false_and, and_false, true_and, and_true, or_false, false_or, or_true, true_or, not_true_eq_false, not_false_eq_true, Nat.zero_add, Nat.add_zero, Nat.le_refl, Nat.lt_irrefl, Nat.zero_lt_succ, Nat.zero_le, forall_const, List.cons.injEq, Value.int.injEq, Value.ref.injEq, Value.long.injEq, and_assoc, exists_and_left, exists_eq_left']
          try simp only [forall_eq]
          rw [z0, e0]
          refine ⟨m_76 hg, m_89 hg, vm (n := 0) l_89 (by decide) (by decide), fun w => ?_, fun w => ?_⟩
          · have : ¬ p' = 2 := fun e => w (by rw [e]; rfl)
            rw [if_neg this] at *; assumption
          · have : p' = 2 := (nI_eq (b := 2) (by omega) (by decide)).mp (Decidable.not_not.mp w)
            rw [if_pos this] at *; assumption
      · have hlt : i < e1 := by
          rcases Nat.lt_or_ge i e1 with w | w
          · exact w
          · exact absurd (nI_le (a := b + e1) (b := b + i) (by omega) (by omega)) z
        rw [seg_get (by omega)] at hd hv
        have hsub : e1 - i - 1 = e1 - (i + 1) := by omega
        rw [hsub] at hd hv
        simp only [List.map_cons, dls, vls] at hd hv
        obtain ⟨c0, hc0, hce⟩ := x5 i hlt
        rw [hce] at hd hv ⊢
        generalize hcc : tr (nI c0) = cc at *
        cases hdc : dst cc k.length with
        | none => rw [hdc] at hd; cases hd
        | some m' =>
          rw [hdc] at hd
          have hm := dst_len (fc := fc) hdc
          have hml : m' ≤ k.length + 1 := by
            unfold dst at hdc
            split at hdc
            · cases hdc; omega
            · split at hdc
              · cases hdc; omega
              · split at hdc
                · split at hdc
                  · cases hdc; omega
                  · cases hdc
                · split at hdc
                  · split at hdc
                    · cases hdc; omega
                    · cases hdc
                  · cases hdc
          have fin : ∀ (k' : List Int32) (M2 : MM) (tp : Int32), k' = vst fc cc k → tp = nI k'.length → Sm (fun a _ => a = 89) M M2 → PS (M2 89) k' → K22 [(0, .ref 76), (1, .int (nI p')), (2, .int (nI s0)), (3, .int j), (4, .int tp), (5, .int (nI b)), (6, .int (nI (b + i) + 1))] [] M2 := by
            intro k' M2 tp hk' htp hs2 hp2
            refine hK22 (e1 - (i + 1)) _ _ _ (by omega) ?_
            rw [hI22]
            have hl : k'.length = m' := by rw [hk', hm]
            exact ⟨i + 1, k', by rw [htp, nI_1]; rfl, rfl, by omega, rfl, hs2, by omega, by rw [hl]; exact hd, by rw [hk']; exact hv, hp2⟩
          have hpush : ∀ (x tp : Int32), tp = nI (k.length + 1) → vst fc cc k = x :: k → K22 [(0, .ref 76), (1, .int (nI p')), (2, .int (nI s0)), (3, .int j), (4, .int tp), (5, .int (nI b)), (6, .int (nI (b + i) + 1))] [] (mset M1 89 k.length x) := by
            intro x tp htp hx
            exact fin (x :: k) _ _ hx.symm htp (hs.set _ rfl) ⟨ms_s _ _ _ _, PS_upd (fun j hj => ms_j (by omega)) hps⟩
          have z15 : (15 : Int32) = nI 15 := rfl
          have z5 : (5 : Int32) = nI 5 := rfl
          have z13 : (13 : Int32) = nI 13 := rfl
          have z14 : (14 : Int32) = nI 14 := rfl
          rw [z15, nI_leI (by decide) (by omega), z5, z13, z14, i_lt, nI_toInt (by decide), nI_toInt (by omega), nI_eq (by omega) (by decide), nI_eq (by omega) (by decide)]
          have hk89 : k.length < 200 := by omega
          have h20 : cc = if c0 < 15 then (if c0 ≤ 5 then -1 - nI c0 else if c0 = 6 then -17 else if c0 = 7 then -18 else if c0 = 8 then -19 else if c0 = 9 then -15 else if c0 = 10 then -16 else if c0 = 11 then -14 else if c0 = 12 then -13 else if c0 = 13 then -12 else -11) else nI (c0 - 15) := by
            rw [← hcc]
            split
            · exact tr_val c0 (by assumption)
            · exact tr_big (by omega) (by omega)
          have okM1 : okM M1 := ho.keep (dm_89 hs hn) (n76 9) (funext n85) (funext n86) (funext n87)
          have hfc1 : ∀ c, fct (dm M1) s0 j c = fc c := fun c => by rw [dm_89 hs hn, hfc]
          refine ⟨m_76 hg, m_87 hg, vm l_87 (by omega) (by decide), fun w => ?_, fun w => ⟨fun w5 => ⟨fun w13 => ?_, fun w13 => ⟨fun w14 => ?_, fun w14 => ?_⟩⟩, fun w5 => ?_⟩⟩
          · rw [if_neg (by omega)] at h20
            have hnn : (0 : Int32) ≤ cc := by rw [h20]; exact nI_le (a := 0) (by omega) (by omega)
            subst hB65
            unfold BX6_ruled_65
            generalize hB97 : BX6_ruled_97 g Q (T_X6_both g) (T_X6_nameOf g) (T_X6_bound g) K22 = B97
            simp only [T_X6_both, T_X6_nameOf, T_X6_bound, i_const, i_lconst, i_iload, i_aload, i_lload, i_istore, i_astore, i_lstore, i_iinc, i_bin, i_div, i_un, i_i2l, i_l2i, i_lbin, i_lcmp, i_if, i_icmp, i_dup, i_dup_x1, i_dup2, i_pop, i_geti, i_getr, i_getd, i_puti, i_putz, i_putd, i_iald, i_bald, i_aald, i_iast, i_bast, i_alen, i_keep, i_ret, i_retz, i_reta, i_retl, i_retv, i_callv, i_callk, i_calls, i_mm, i_copy, i_under, i_undld, i_ldcs, i_sw, q_swc0, q_swc1, q_lg0, q_lg1, q_lent0, q_lent1, lset, lset2, q_lins0, q_lins1, q_ldel0, q_ldel1, q_ldel20, q_ldel21, q_lkeep0, q_lkeep1, q_memb0, q_memb1, cat2, Nat.reduceBEq, decide_true, decide_false, decide_eq_true_eq, cond_true, cond_false, Bool.and_true, Bool.and_false, Bool.true_and, Bool.false_and, f_iadd, f_isub, f_imul, f_ishl, f_ishr, f_iushr, f_iand, f_ior, f_idiv, f_irem, f_ineg, f_i2b, f_i2s, f_ladd, f_lmul, c_eq, c_ne, c_lt, c_ge, c_gt, c_le, cc_eq, cc_ne, cc_lt, cc_ge, cc_gt, cc_le, rfo, aof, csum, Value.category, List.take, List.drop, List.reverse, List.reverseAux, List.map, List.sum_cons, List.sum_nil, List.cons_append, List.nil_append, Option.toList, List.mem_cons, List.not_mem_nil, List.length_cons, List.length_nil, reduceIte, Nat.reduceEqDiff, Nat.reduceAdd, Nat.reduceLeDiff, Nat.reduceLT, a_day, Nat.zero_ne_one, Nat.one_ne_zero, false_and, and_false, true_and, and_true, or_false, false_or, or_true, true_or, not_true_eq_false, not_false_eq_true, Nat.zero_add, Nat.add_zero, Nat.le_refl, Nat.lt_irrefl, Nat.zero_lt_succ, Nat.zero_le, forall_const, List.cons.injEq, Value.int.injEq, Value.ref.injEq, Value.long.injEq, and_assoc, exists_and_left, exists_eq_left']
            try simp only [forall_eq]
            refine ⟨m_76 hg, fun q => ?_, fun _ => ?_⟩
            · rw [z15, i_lt, nI_toInt (by omega), nI_toInt (by omega)] at q; omega
            · subst hB97
              unfold BX6_ruled_97
              simp only [T_X6_both, T_X6_nameOf, T_X6_bound, i_const, i_lconst, i_iload, i_aload, i_lload, i_istore, i_astore, i_lstore, i_iinc, i_bin, i_div, i_un, i_i2l, i_l2i, i_lbin, i_lcmp, i_if, i_icmp, i_dup, i_dup_x1, i_dup2, i_pop, i_geti, i_getr, i_getd, i_puti, i_putz, i_putd, i_iald, i_bald, i_aald, i_iast, i_bast, i_alen, i_keep, i_ret, i_retz, i_reta, i_retl, i_retv, i_callv, i_callk, i_calls, i_mm, i_copy, i_under, i_undld, i_ldcs, i_sw, q_swc0, q_swc1, q_lg0, q_lg1, q_lent0, q_lent1, lset, lset2, q_lins0, q_lins1, q_ldel0, q_ldel1, q_ldel20, q_ldel21, q_lkeep0, q_lkeep1, q_memb0, q_memb1, cat2, Nat.reduceBEq, decide_true, decide_false, decide_eq_true_eq, cond_true, cond_false, Bool.and_true, Bool.and_false, Bool.true_and, Bool.false_and, f_iadd, f_isub, f_imul, f_ishl, f_ishr, f_iushr, f_iand, f_ior, f_idiv, f_irem, f_ineg, f_i2b, f_i2s, f_ladd, f_lmul, c_eq, c_ne, c_lt, c_ge, c_gt, c_le, cc_eq, cc_ne, cc_lt, cc_ge, cc_gt, cc_le, rfo, aof, csum, Value.category, List.take, List.drop, List.reverse, List.reverseAux, List.map, List.sum_cons, List.sum_nil, List.cons_append, List.nil_append, Option.toList, List.mem_cons, List.not_mem_nil, List.length_cons, List.length_nil, reduceIte, Nat.reduceEqDiff, Nat.reduceAdd, Nat.reduceLeDiff, Nat.reduceLT, a_day, Nat.zero_ne_one, Nat.one_ne_zero, false_and, and_false, true_and, and_true, or_false, false_or, or_true, true_or, not_true_eq_false, not_false_eq_true, Nat.zero_add, Nat.add_zero, Nat.le_refl, Nat.lt_irrefl, Nat.zero_lt_succ, Nat.zero_le, forall_const, List.cons.injEq, Value.int.injEq, Value.ref.injEq, Value.long.injEq, and_assoc, exists_and_left, exists_eq_left']
              try simp only [forall_eq]
              refine ⟨m_89 hg, vm l_89 hk89 (by decide), ?_⟩
              rw [nI_clamp (by omega), z15, pk_sub (by omega)]
              refine hpush _ _ (nI_1 _) ?_
              unfold vst
              rw [if_pos hnn, h20]
          · have : c0 = 13 := w13
            subst this
            rw [if_pos (by decide)] at h20
            have h20 : cc = -12 := h20
            subst h20
            have hk1 : 1 ≤ k.length := by
              unfold dst at hdc
              simp at hdc
              omega
            match k, hk1, hkl, hps, fin, hk89 with
            | a :: r, _, hkl, hps, fin, hk89 =>
              have q1 : M1 89 r.length = a := hps.1
              have hl : (a :: r).length = r.length + 1 := rfl
              subst hB115
              unfold BX6_ruled_115
              simp only [T_X6_both, T_X6_nameOf, T_X6_bound, i_const, i_lconst, i_iload, i_aload, i_lload, i_istore, i_astore, i_lstore, i_iinc, i_bin, i_div, i_un, i_i2l, i_l2i, i_lbin, i_lcmp, i_if, i_icmp, i_dup, i_dup_x1, i_dup2, i_pop, i_geti, i_getr, i_getd, i_puti, i_putz, i_putd, i_iald, i_bald, i_aald, i_iast, i_bast, i_alen, i_keep, i_ret, i_retz, i_reta, i_retl, i_retv, i_callv, i_callk, i_calls, i_mm, i_copy, i_under, i_undld, i_ldcs, i_sw, q_swc0, q_swc1, q_lg0, q_lg1, q_lent0, q_lent1, lset, lset2, q_lins0, q_lins1, q_ldel0, q_ldel1, q_ldel20, q_ldel21, q_lkeep0, q_lkeep1, q_memb0, q_memb1, cat2, Nat.reduceBEq, decide_true, decide_false, decide_eq_true_eq, cond_true, cond_false, Bool.and_true, Bool.and_false, Bool.true_and, Bool.false_and, f_iadd, f_isub, f_imul, f_ishl, f_ishr, f_iushr, f_iand, f_ior, f_idiv, f_irem, f_ineg, f_i2b, f_i2s, f_ladd, f_lmul, c_eq, c_ne, c_lt, c_ge, c_gt, c_le, cc_eq, cc_ne, cc_lt, cc_ge, cc_gt, cc_le, rfo, aof, csum, Value.category, List.take, List.drop, List.reverse, List.reverseAux, List.map, List.sum_cons, List.sum_nil, List.cons_append, List.nil_append, Option.toList, List.mem_cons, List.not_mem_nil, List.length_cons, List.length_nil, reduceIte, Nat.reduceEqDiff, Nat.reduceAdd, Nat.reduceLeDiff, Nat.reduceLT, a_day, Nat.zero_ne_one, Nat.one_ne_zero, false_and, and_false, true_and, and_true, or_false, false_or, or_true, true_or, not_true_eq_false, not_false_eq_true, Nat.zero_add, Nat.add_zero, Nat.le_refl, Nat.lt_irrefl, Nat.zero_lt_succ, Nat.zero_le, forall_const, List.cons.injEq, Value.int.injEq, Value.ref.injEq, Value.long.injEq, and_assoc, exists_and_left, exists_eq_left']
              try simp only [forall_eq]
              simp only [hl, nI_pred, nI_clamp (show r.length < 2 ^ 31 by omega), q1]
              have fz : ∀ x, vst fc (-12) (a :: r) = x :: r → K22 [(0, .ref 76), (1, .int (nI p')), (2, .int (nI s0)), (3, .int j), (4, .int (nI (r.length + 1))), (5, .int (nI b)), (6, .int (nI (b + i) + 1))] [] (mset M1 89 r.length x) := fun x hx => fin (x :: r) _ _ hx.symm rfl (hs.set _ rfl) ⟨ms_s _ _ _ _, PS_upd (fun j hj => ms_j (by omega)) hps.2⟩
              have t4 : vp_in (nI r.length) (ln 89) := vm l_89 (by rw [hl] at hk89; omega) (by decide)
              refine ⟨m_76 hg, fun _ => ⟨m_76 hg, m_89 hg, t4, fun q => ⟨m_89 hg, t4, ?_⟩, fun q => ⟨m_89 hg, t4, ?_⟩⟩, fun q => absurd (by decide) q⟩
              · exact fz 0 (by show b2i (a = 0) :: r = _; rw [b2i_f q])
              · exact fz 1 (by show b2i (a = 0) :: r = _; rw [b2i_t (Decidable.not_not.mp q)])
          · have hcn : ¬ (0 : Int32) ≤ cc ∧ ¬ -6 ≤ cc ∧ ¬ cc = -11 ∧ ¬ cc = -12 ∧ (-19 ≤ cc ∧ cc ≤ -13) ∧ ∀ x y, bth (nI c0) x y = joi cc x y := by
              have h5 : 6 ≤ c0 := by omega
              have h6 : c0 ≤ 12 := by omega
              rw [h20]
              have : c0 = 6 ∨ c0 = 7 ∨ c0 = 8 ∨ c0 = 9 ∨ c0 = 10 ∨ c0 = 11 ∨ c0 = 12 := by omega
              rcases this with e | e | e | e | e | e | e <;> subst e <;> exact ⟨by decide, by decide, by decide, by decide, by decide, fun _ _ => rfl⟩
            obtain ⟨n1, n2, n3, n4, n5, n6⟩ := hcn
            have hk2 : 2 ≤ k.length := by
              unfold dst at hdc
              rw [if_neg n1, if_neg n2, if_neg (fun q => q.elim n3 n4), if_pos n5] at hdc
              split at hdc
              · assumption
              · cases hdc
            match k, hk2, hkl, hps, fin, hk89 with
            | b2 :: a2 :: k2, _, hkl, hps, fin, hk89 =>
              have hl : (b2 :: a2 :: k2).length = k2.length + 1 + 1 := rfl
              have et : (nI (k2.length + 1 + 1) + -1 : Int32) = nI (k2.length + 1) := pk_m1 _
              have q1 : M1 89 (k2.length + 1) = b2 := hps.1
              have q2 : M1 89 k2.length = a2 := hps.2.1
              rw [hl] at hk89
              simp only [hl, et, nI_pred]
              rw [nI_clamp (show k2.length < 2 ^ 31 by omega), nI_clamp (show k2.length + 1 < 2 ^ 31 by omega), q1, q2, n6]
              have t4 : vp_in (nI k2.length) (ln 89) := vm l_89 (by omega) (by decide)
              refine ⟨m_76 hg, m_76 hg, m_89 hg, t4, m_76 hg, m_89 hg, vm l_89 (by omega) (by decide), ?_⟩
              subst hB196
              unfold BX6_ruled_196
              simp only [T_X6_both, T_X6_nameOf, T_X6_bound, i_const, i_lconst, i_iload, i_aload, i_lload, i_istore, i_astore, i_lstore, i_iinc, i_bin, i_div, i_un, i_i2l, i_l2i, i_lbin, i_lcmp, i_if, i_icmp, i_dup, i_dup_x1, i_dup2, i_pop, i_geti, i_getr, i_getd, i_puti, i_putz, i_putd, i_iald, i_bald, i_aald, i_iast, i_bast, i_alen, i_keep, i_ret, i_retz, i_reta, i_retl, i_retv, i_callv, i_callk, i_calls, i_mm, i_copy, i_under, i_undld, i_ldcs, i_sw, q_swc0, q_swc1, q_lg0, q_lg1, q_lent0, q_lent1, lset, lset2, q_lins0, q_lins1, q_ldel0, q_ldel1, q_ldel20, q_ldel21, q_lkeep0, q_lkeep1, q_memb0, q_memb1, cat2, Nat.reduceBEq, decide_true, decide_false, decide_eq_true_eq, cond_true, cond_false, Bool.and_true, Bool.and_false, Bool.true_and, Bool.false_and, f_iadd, f_isub, f_imul, f_ishl, f_ishr, f_iushr, f_iand, f_ior, f_idiv, f_irem, f_ineg, f_i2b, f_i2s, f_ladd, f_lmul, c_eq, c_ne, c_lt, c_ge, c_gt, c_le, cc_eq, cc_ne, cc_lt, cc_ge, cc_gt, cc_le, rfo, aof, csum, Value.category, List.take, List.drop, List.reverse, List.reverseAux, List.map, List.sum_cons, List.sum_nil, List.cons_append, List.nil_append, Option.toList, List.mem_cons, List.not_mem_nil, List.length_cons, List.length_nil, reduceIte, Nat.reduceEqDiff, Nat.reduceAdd, Nat.reduceLeDiff, Nat.reduceLT, a_day, Nat.zero_ne_one, Nat.one_ne_zero, false_and, and_false, true_and, and_true, or_false, false_or, or_true, true_or, not_true_eq_false, not_false_eq_true, Nat.zero_add, Nat.add_zero, Nat.le_refl, Nat.lt_irrefl, Nat.zero_lt_succ, Nat.zero_le, forall_const, List.cons.injEq, Value.int.injEq, Value.ref.injEq, Value.long.injEq, and_assoc, exists_and_left, exists_eq_left']
              try simp only [forall_eq]
              refine ⟨m_89 hg, t4, ?_⟩
              rw [nI_clamp (show k2.length < 2 ^ 31 by omega)]
              refine fin (joi cc a2 b2 :: k2) _ _ ?_ rfl (hs.set _ rfl) ⟨ms_s _ _ _ _, PS_upd (fun j hj => ms_j (by omega)) hps.2.2⟩
              unfold vst
              rw [if_neg n1, if_neg n2]
              simp [n3, n4]
          · have : c0 = 14 := Decidable.not_not.mp w14
            subst this
            rw [if_pos (by decide)] at h20
            have h20 : cc = -11 := h20
            subst h20
            have hk1 : 1 ≤ k.length := by
              unfold dst at hdc
              simp at hdc
              omega
            match k, hk1, hkl, hps, fin, hk89 with
            | a :: r, _, hkl, hps, fin, hk89 =>
              have q1 : M1 89 r.length = a := hps.1
              have hl : (a :: r).length = r.length + 1 := rfl
              subst hB115
              unfold BX6_ruled_115
              simp only [T_X6_both, T_X6_nameOf, T_X6_bound, i_const, i_lconst, i_iload, i_aload, i_lload, i_istore, i_astore, i_lstore, i_iinc, i_bin, i_div, i_un, i_i2l, i_l2i, i_lbin, i_lcmp, i_if, i_icmp, i_dup, i_dup_x1, i_dup2, i_pop, i_geti, i_getr, i_getd, i_puti, i_putz, i_putd, i_iald, i_bald, i_aald, i_iast, i_bast, i_alen, i_keep, i_ret, i_retz, i_reta, i_retl, i_retv, i_callv, i_callk, i_calls, i_mm, i_copy, i_under, i_undld, i_ldcs, i_sw, q_swc0, q_swc1, q_lg0, q_lg1, q_lent0, q_lent1, lset, lset2, q_lins0, q_lins1, q_ldel0, q_ldel1, q_ldel20, q_ldel21, q_lkeep0, q_lkeep1, q_memb0, q_memb1, cat2, Nat.reduceBEq, decide_true, decide_false, decide_eq_true_eq, cond_true, cond_false, Bool.and_true, Bool.and_false, Bool.true_and, Bool.false_and, f_iadd, f_isub, f_imul, f_ishl, f_ishr, f_iushr, f_iand, f_ior, f_idiv, f_irem, f_ineg, f_i2b, f_i2s, f_ladd, f_lmul, c_eq, c_ne, c_lt, c_ge, c_gt, c_le, cc_eq, cc_ne, cc_lt, cc_ge, cc_gt, cc_le, rfo, aof, csum, Value.category, List.take, List.drop, List.reverse, List.reverseAux, List.map, List.sum_cons, List.sum_nil, List.cons_append, List.nil_append, Option.toList, List.mem_cons, List.not_mem_nil, List.length_cons, List.length_nil, reduceIte, Nat.reduceEqDiff, Nat.reduceAdd, Nat.reduceLeDiff, Nat.reduceLT, a_day, Nat.zero_ne_one, Nat.one_ne_zero, false_and, and_false, true_and, and_true, or_false, false_or, or_true, true_or, not_true_eq_false, not_false_eq_true, Nat.zero_add, Nat.add_zero, Nat.le_refl, Nat.lt_irrefl, Nat.zero_lt_succ, Nat.zero_le, forall_const, List.cons.injEq, Value.int.injEq, Value.ref.injEq, Value.long.injEq, and_assoc, exists_and_left, exists_eq_left']
              try simp only [forall_eq]
              simp only [hl, nI_pred, nI_clamp (show r.length < 2 ^ 31 by omega), q1]
              have fz : ∀ x, vst fc (-11) (a :: r) = x :: r → K22 [(0, .ref 76), (1, .int (nI p')), (2, .int (nI s0)), (3, .int j), (4, .int (nI (r.length + 1))), (5, .int (nI b)), (6, .int (nI (b + i) + 1))] [] (mset M1 89 r.length x) := fun x hx => fin (x :: r) _ _ hx.symm rfl (hs.set _ rfl) ⟨ms_s _ _ _ _, PS_upd (fun j hj => ms_j (by omega)) hps.2⟩
              have t4 : vp_in (nI r.length) (ln 89) := vm l_89 (by rw [hl] at hk89; omega) (by decide)
              refine ⟨m_76 hg, fun q => absurd (by decide) q, fun _ => ⟨m_76 hg, m_89 hg, t4, m_89 hg, t4, ?_⟩⟩
              exact fz (-a) rfl
          · rw [if_pos (by omega), if_pos (by omega)] at h20
            have hnn : ¬ (0 : Int32) ≤ cc ∧ -6 ≤ cc ∧ (-1 - cc).toNatClampNeg = c0 := by
              rw [h20]
              have : ∀ c, c < 6 → ¬ (0 : Int32) ≤ -1 - nI c ∧ -6 ≤ -1 - nI c ∧ (-1 - (-1 - nI c)).toNatClampNeg = c := by decide
              exact this c0 (by omega)
            subst hB65
            unfold BX6_ruled_65
            generalize hB97 : BX6_ruled_97 g Q (T_X6_both g) (T_X6_nameOf g) (T_X6_bound g) K22 = B97
            simp only [T_X6_both, T_X6_nameOf, T_X6_bound, i_const, i_lconst, i_iload, i_aload, i_lload, i_istore, i_astore, i_lstore, i_iinc, i_bin, i_div, i_un, i_i2l, i_l2i, i_lbin, i_lcmp, i_if, i_icmp, i_dup, i_dup_x1, i_dup2, i_pop, i_geti, i_getr, i_getd, i_puti, i_putz, i_putd, i_iald, i_bald, i_aald, i_iast, i_bast, i_alen, i_keep, i_ret, i_retz, i_reta, i_retl, i_retv, i_callv, i_callk, i_calls, i_mm, i_copy, i_under, i_undld, i_ldcs, i_sw, q_swc0, q_swc1, q_lg0, q_lg1, q_lent0, q_lent1, lset, lset2, q_lins0, q_lins1, q_ldel0, q_ldel1, q_ldel20, q_ldel21, q_lkeep0, q_lkeep1, q_memb0, q_memb1, cat2, Nat.reduceBEq, decide_true, decide_false, decide_eq_true_eq, cond_true, cond_false, Bool.and_true, Bool.and_false, Bool.true_and, Bool.false_and, f_iadd, f_isub, f_imul, f_ishl, f_ishr, f_iushr, f_iand, f_ior, f_idiv, f_irem, f_ineg, f_i2b, f_i2s, f_ladd, f_lmul, c_eq, c_ne, c_lt, c_ge, c_gt, c_le, cc_eq, cc_ne, cc_lt, cc_ge, cc_gt, cc_le, rfo, aof, csum, Value.category, List.take, List.drop, List.reverse, List.reverseAux, List.map, List.sum_cons, List.sum_nil, List.cons_append, List.nil_append, Option.toList, List.mem_cons, List.not_mem_nil, List.length_cons, List.length_nil, reduceIte, Nat.reduceEqDiff, Nat.reduceAdd, Nat.reduceLeDiff, Nat.reduceLT, a_day, Nat.zero_ne_one, Nat.one_ne_zero, false_and, and_false, true_and, and_true, or_false, false_or, or_true, true_or, not_true_eq_false, not_false_eq_true, Nat.zero_add, Nat.add_zero, Nat.le_refl, Nat.lt_irrefl, Nat.zero_lt_succ, Nat.zero_le, forall_const, List.cons.injEq, Value.int.injEq, Value.ref.injEq, Value.long.injEq, and_assoc, exists_and_left, exists_eq_left']
            try simp only [forall_eq]
            refine ⟨m_76 hg, fun _ => ?_, fun q => ?_⟩
            · refine ⟨(m_76 hg).1, (m_76 hg).2.1, c0, rfl, s0, rfl, by omega, okM1, by rw [dm_89 hs hn]; exact hs0, ?_⟩
              rw [hfc1]
              subst hB97
              unfold BX6_ruled_97
              simp only [T_X6_both, T_X6_nameOf, T_X6_bound, i_const, i_lconst, i_iload, i_aload, i_lload, i_istore, i_astore, i_lstore, i_iinc, i_bin, i_div, i_un, i_i2l, i_l2i, i_lbin, i_lcmp, i_if, i_icmp, i_dup, i_dup_x1, i_dup2, i_pop, i_geti, i_getr, i_getd, i_puti, i_putz, i_putd, i_iald, i_bald, i_aald, i_iast, i_bast, i_alen, i_keep, i_ret, i_retz, i_reta, i_retl, i_retv, i_callv, i_callk, i_calls, i_mm, i_copy, i_under, i_undld, i_ldcs, i_sw, q_swc0, q_swc1, q_lg0, q_lg1, q_lent0, q_lent1, lset, lset2, q_lins0, q_lins1, q_ldel0, q_ldel1, q_ldel20, q_ldel21, q_lkeep0, q_lkeep1, q_memb0, q_memb1, cat2, Nat.reduceBEq, decide_true, decide_false, decide_eq_true_eq, cond_true, cond_false, Bool.and_true, Bool.and_false, Bool.true_and, Bool.false_and, f_iadd, f_isub, f_imul, f_ishl, f_ishr, f_iushr, f_iand, f_ior, f_idiv, f_irem, f_ineg, f_i2b, f_i2s, f_ladd, f_lmul, c_eq, c_ne, c_lt, c_ge, c_gt, c_le, cc_eq, cc_ne, cc_lt, cc_ge, cc_gt, cc_le, rfo, aof, csum, Value.category, List.take, List.drop, List.reverse, List.reverseAux, List.map, List.sum_cons, List.sum_nil, List.cons_append, List.nil_append, Option.toList, List.mem_cons, List.not_mem_nil, List.length_cons, List.length_nil, reduceIte, Nat.reduceEqDiff, Nat.reduceAdd, Nat.reduceLeDiff, Nat.reduceLT, a_day, Nat.zero_ne_one, Nat.one_ne_zero, false_and, and_false, true_and, and_true, or_false, false_or, or_true, true_or, not_true_eq_false, not_false_eq_true, Nat.zero_add, Nat.add_zero, Nat.le_refl, Nat.lt_irrefl, Nat.zero_lt_succ, Nat.zero_le, forall_const, List.cons.injEq, Value.int.injEq, Value.ref.injEq, Value.long.injEq, and_assoc, exists_and_left, exists_eq_left']
              try simp only [forall_eq]
              refine ⟨m_89 hg, vm l_89 hk89 (by decide), ?_⟩
              rw [nI_clamp (by omega)]
              refine hpush _ _ (nI_1 _) ?_
              unfold vst
              rw [if_neg hnn.1, if_pos hnn.2.1, hnn.2.2]
            · rw [z15, i_lt, nI_toInt (by omega), nI_toInt (by omega)] at q; omega
      
    refine s_of (fun lv st M0 hs => ?_) (WX6_ruled_0 C (t_X6_both hg) (by decide) (t_X6_nameOf hg) (by decide) (t_X6_bound hg) (by decide) L22)
    obtain ⟨rfl, rfl, rfl⟩ := hs
    unfold BX6_ruled_0
    simp only [T_X6_both, T_X6_nameOf, T_X6_bound, i_const, i_lconst, i_iload, i_aload, i_lload, i_istore, i_astore, i_lstore, i_iinc, i_bin, i_div, i_un, i_i2l, i_l2i, i_lbin, i_lcmp, i_if, i_icmp, i_dup, i_dup_x1, i_dup2, i_pop, i_geti, i_getr, i_getd, i_puti, i_putz, i_putd, i_iald, i_bald, i_aald, i_iast, i_bast, i_alen, i_keep, i_ret, i_retz, i_reta, i_retl, i_retv, i_callv, i_callk, i_calls, i_mm, i_copy, i_under, i_undld, i_ldcs, i_sw, q_swc0, q_swc1, q_lg0, q_lg1, q_lent0, q_lent1, lset, lset2, q_lins0, q_lins1, q_ldel0, q_ldel1, q_ldel20, q_ldel21, q_lkeep0, q_lkeep1, q_memb0, q_memb1, cat2, Nat.reduceBEq, decide_true, decide_false, decide_eq_true_eq, cond_true, cond_false, Bool.and_true, Bool.and_false, Bool.true_and, Bool.false_and, f_iadd, f_isub, f_imul, f_ishl, f_ishr, f_iushr, f_iand, f_ior, f_idiv, f_irem, f_ineg, f_i2b, f_i2s, f_ladd, f_lmul, c_eq, c_ne, c_lt, c_ge, c_gt, c_le, cc_eq, cc_ne, cc_lt, cc_ge, cc_gt, cc_le, rfo, aof, csum, Value.category, List.take, List.drop, List.reverse, List.reverseAux, List.map, List.sum_cons, List.sum_nil, List.cons_append, List.nil_append, Option.toList, List.mem_cons, List.not_mem_nil, List.length_cons, List.length_nil, reduceIte, Nat.reduceEqDiff, Nat.reduceAdd, Nat.reduceLeDiff, Nat.reduceLT, a_day, Nat.zero_ne_one, Nat.one_ne_zero, false_and, and_false, true_and, and_true, or_false, false_or, or_true, true_or, not_true_eq_false, not_false_eq_true, Nat.zero_add, Nat.add_zero, Nat.le_refl, Nat.lt_irrefl, Nat.zero_lt_succ, Nat.zero_le, forall_const, List.cons.injEq, Value.int.injEq, Value.ref.injEq, Value.long.injEq, and_assoc, exists_and_left, exists_eq_left']
    try simp only [forall_eq]
    have e3 : (3 : Int32) * nI t + nI p' = nI (3 * t + p') := by
      rw [show (3 : Int32) = nI 3 from rfl, pk_mul, nI_add]
    rw [h9, e3, nI_clamp (by omega), x1]
    refine ⟨m_76 hg, m_76 hg, m_85 hg, vm l_85 (by omega) (by decide), ?_⟩
    refine iE22 (e1 - 0) _ _ _ ?_
    rw [hI22]
    refine ⟨0, [], rfl, rfl, by omega, rfl, Sm.rf, by simp, ?_, ?_, trivial⟩
    · rw [Nat.add_zero, Nat.sub_zero, ← hcs2]; exact x4
    · rw [Nat.add_zero, Nat.sub_zero, ← hcs2]
