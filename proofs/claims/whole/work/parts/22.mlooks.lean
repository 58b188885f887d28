/-! ===== the model's look at a day ===== -/
def YL (a _b : Nat) : Prop := 89 ≤ a ∧ a ≤ 92
theorem YL88 : ∀ a j, YL a j → 88 ≤ a := fun a j h => by unfold YL at h; omega
def LK (M : MM) (gn ed : Nat → Bool) (sf : Nat → Int32) : Prop := ∀ j, j < 16 → M 90 j = b2i (gn j = true) ∧ M 91 j = b2i (ed j = true) ∧ M 92 j = sf j
theorem b2c {p q : Prop} [Decidable p] [Decidable q] (h : p ↔ q) : b2i p = b2i q := by unfold b2i; simp only [h]
theorem LK_hit {M1 M2 : MM} {gn ed : Nat → Bool} {sf v : Nat → Int32} {hh : Nat} (hl : LK M1 gn ed sf) (h16 : hh < 16) (hs : Sm (fun a b => a = 89 ∨ (a = 91 ∧ b = hh) ∨ (a = 92 ∧ b = hh)) M1 M2) (e1 : M2 91 hh = 1) (e2 : M2 92 hh = M1 92 hh + v hh) : LK M2 gn (fun j => ed j || decide (nI hh = nI j)) (pa sf (nI hh) v) := by
  intro j hj
  obtain ⟨a, b, c⟩ := hl j hj
  have hp : (0 : Int32) ≤ nI hh := nI_pos' (by omega)
  refine ⟨?_, ?_, ?_⟩
  · rw [hs 90 j (by omega), a]
  · by_cases e : j = hh
    · subst e; rw [e1, b2i_t (by simp)]
    · rw [hs 91 j (by omega), b]
      have : ¬ nI hh = nI j := fun q => e ((nI_eq (by omega) (by omega)).mp q).symm
      simp [this]
  · simp only [pa, if_pos hp, nI_clamp (show hh < 2 ^ 31 by omega), upd]
    by_cases e : j = hh
    · subst e; rw [if_pos rfl, e2, c]
    · rw [if_neg e, hs 92 j (by omega), c]
theorem LK_miss {M1 : MM} {gn ed : Nat → Bool} {sf v : Nat → Int32} (hl : LK M1 gn ed sf) : LK M1 gn (fun j => ed j || decide ((-1 : Int32) = nI j)) (pa sf (-1) v) := by
  intro j hj
  obtain ⟨a, b, c⟩ := hl j hj
  have hp : ¬ (0 : Int32) ≤ -1 := by decide
  have : ¬ (-1 : Int32) = nI j := fun q => hp (by rw [q]; exact nI_pos' (by omega))
  exact ⟨a, by simp [b, this], by simp only [pa, if_neg hp, c]⟩
/-- an hour asked, whichever it is -/
theorem looks_at {g : WG} {D : DV} {X : XV} {M1 : MM} {gn ed : Nat → Bool} {sf : Nat → Int32} {s : Nat} {x hv : Int32} {Q : Option Value → MM → Prop} (ho : okM M1) (hD : dm M1 = D) (hX : xm M1 = X) (hs : s < dn D) (hx : x = hv ∨ (x = nI 16 ∧ hv = -1)) (hv1 : hok hv) (hl : LK M1 gn ed sf) (k : ∀ M2, Sm YL M1 M2 → LK M2 gn (fun j => ed j || decide (hv = nI j)) (pa sf hv (pul X D s)) → Q none M2) : T_X6_pullsAt g [.ref 76, .int (nI s), .int x] M1 Q := by
  refine ⟨s, x, rfl, ho, by rw [hD]; exact hs, ?_, fun hn => ?_, fun hh M' h16 e hs1 e1 e2 => ?_⟩
  · rcases hx with rfl | ⟨rfl, -⟩
    · rcases hv1 with rfl | ⟨h, h1, rfl⟩
      · exact Or.inl rfl
      · exact Or.inr ⟨h, by omega, rfl⟩
    · exact Or.inr ⟨16, by decide, rfl⟩
  · have : hv = -1 := by
      rcases hx with rfl | ⟨-, e⟩
      · rcases hv1 with rfl | ⟨h, h1, rfl⟩
        · rfl
        · exact absurd ⟨nI_pos' (by omega), nI_le (b := 15) (by omega) (by decide)⟩ hn
      · exact e
    subst this
    exact k M1 Sm.rf (LK_miss hl)
  · subst e
    have : hv = nI hh := by
      rcases hx with e | ⟨e, -⟩
      · exact e.symm
      · have := (nI_eq (by omega) (by decide)).mp e
        omega
    subst this
    rw [hD, hX] at e2
    exact k M' (hs1.mono fun a b q => by unfold YL; omega) (LK_hit hl h16 hs1 e1 e2)
def T_X6_looks (g : WG) (as : List Value) (M : MM) (Q : Option Value → MM → Prop) : Prop := as = [.ref 76] ∧ okM M ∧ ∀ M', Sm YL M M' → LK M' (gon (dm M)) (edg (dm M) (dn (dm M))) (strn (xm M) (dm M) (dn (dm M))) → Q none M'
set_option maxRecDepth 100000 in
set_option maxHeartbeats 4000000 in
theorem t_X6_looks {l : Launch} {g : WG} (hg : Full g) : Ct l g yX6_looks cX6_looks 3 ((Option.none : Option FieldType)) 6 (T_X6_looks g) := by
  refine Ct.of (by decide) (fun as M Q h => ?_) (fun p e s m args below meth c as M Q h C => ?_)
  · obtain ⟨rfl, ho, h⟩ := h; exact ⟨by simp, by simp [Value.category]⟩
  · obtain ⟨rfl, ho, h⟩ := h
    have hn := ho.n
    obtain ⟨D, hD⟩ : ∃ D, dm M = D := ⟨_, rfl⟩
    obtain ⟨X, hX⟩ : ∃ X, xm M = X := ⟨_, rfl⟩
    have hmany := ho.many
    have hseam := fun s (hs : s < dn (dm M)) => ho.seam hs
    rw [hD, hX] at h
    rw [hD] at hn hmany hseam
    have keep : ∀ M', Sm YL M M' → okM M' ∧ dm M' = D ∧ xm M' = X := fun M' hs => by
      obtain ⟨a, b, c⟩ := keepM hs YL88 ho
      exact ⟨a, b.trans hD, c.trans hX⟩
    have f : ∀ M', Sm YL M M' → ∀ a j, a < 88 → M' a j = M a j := fun M' hs a j ha => hs a j (by unfold YL; omega)
    have ds : ∀ M', Sm YL M M' → ∀ s, s < dn D → M' 80 s = nI (fi D s) ∧ M' 81 s = nI (la D s) ∧ M' 83 s = D 6 s := fun M' hs s h1 => by
      obtain ⟨w1, w2, -⟩ := hseam s h1
      have h2 : s < dn (dm M) := by rw [hD]; exact h1
      rw [f M' hs 80 s (by decide), f M' hs 81 s (by decide), f M' hs 83 s (by decide), ← dm_s (M := M) 3 (by decide) (by decide) h2, ← dm_s (M := M) 4 (by decide) (by decide) h2, ← dm_s (M := M) 6 (by decide) (by decide) h2, hD]
      exact ⟨w1, w2, rfl⟩
    have zr : (0 : Int32) = b2i (false = true) := rfl
    obtain ⟨I2, hI2⟩ : ∃ I : Nat → PP, I = (fun n lv st M' => ∃ k, lv = [(0, .ref 76), (1, .int (nI k))] ∧ st = [] ∧ k ≤ 16 ∧ n = 16 - k ∧ Sm YL M M' ∧ ∀ j, j < k → M' 90 j = 0 ∧ M' 91 j = 0 ∧ M' 92 j = 0) := ⟨_, rfl⟩
    obtain ⟨E2, hE2⟩ : ∃ E : PP, E = (fun lv st M => ∃ n, I2 n lv st M) := ⟨_, rfl⟩
    have iE2 : ∀ n lv st M, I2 n lv st M → E2 lv st M := fun n lv st M h => by rw [hE2]; exact ⟨n, h⟩
    obtain ⟨I37, hI37⟩ : ∃ I : Nat → PP, I = (fun n lv st M' => ∃ k, lv = [(0, .ref 76), (1, .int (nI k))] ∧ st = [] ∧ k ≤ dn D ∧ n = dn D - k ∧ Sm YL M M' ∧ LK M' (gonN D k) (fun _ => false) (fun _ => 0)) := ⟨_, rfl⟩
    obtain ⟨E37, hE37⟩ : ∃ E : PP, E = (fun lv st M => ∃ n, I37 n lv st M) := ⟨_, rfl⟩
    have iE37 : ∀ n lv st M, I37 n lv st M → E37 lv st M := fun n lv st M h => by rw [hE37]; exact ⟨n, h⟩
    obtain ⟨I52, hI52⟩ : ∃ I : PP → Nat → PP, I = (fun K n lv st M' => ∃ k i, lv = [(0, .ref 76), (1, .int (nI k)), (2, .int (nI i))] ∧ st = [] ∧ k < dn D ∧ fi D k ≤ i ∧ i ≤ la D k + 1 ∧ n = la D k + 1 - i ∧ Sm YL M M' ∧ LK M' (fun j => gonN D k j || (decide (D 6 k = 0) && decide (fi D k ≤ j) && decide (j < i))) (fun _ => false) (fun _ => 0) ∧ ∀ M2, Sm YL M M2 → LK M2 (gonN D (k + 1)) (fun _ => false) (fun _ => 0) → K [(0, .ref 76), (1, .int (nI (k + 1)))] [] M2) := ⟨_, rfl⟩
    obtain ⟨I92, hI92⟩ : ∃ I : Nat → PP, I = (fun n lv st M' => ∃ k, lv = [(0, .ref 76), (1, .int (nI k))] ∧ st = [] ∧ k ≤ dn D ∧ n = dn D - k ∧ Sm YL M M' ∧ LK M' (gon D) (edg D k) (strn X D k)) := ⟨_, rfl⟩
    obtain ⟨E92, hE92⟩ : ∃ E : PP, E = (fun lv st M => ∃ n, I92 n lv st M) := ⟨_, rfl⟩
    have iE92 : ∀ n lv st M, I92 n lv st M → E92 lv st M := fun n lv st M h => by rw [hE92]; exact ⟨n, h⟩
    obtain ⟨I121, hI121⟩ : ∃ I : PP → Nat → PP, I = (fun K n lv st M' => ∃ k, lv = [(0, .ref 76), (1, .int (nI k)), (2, .int (nI n - 1))] ∧ st = [] ∧ k < dn D ∧ n ≤ fi D k ∧ D 6 k = 0 ∧ ahd (gon D) n = hA D k ∧ Sm YL M M' ∧ LK M' (gon D) (edg D k) (strn X D k) ∧ ∀ M2, Sm YL M M2 → LK M2 (gon D) (edg D (k + 1)) (strn X D (k + 1)) → K [(0, .ref 76), (1, .int (nI (k + 1)))] [] M2) := ⟨_, rfl⟩
    obtain ⟨I155, hI155⟩ : ∃ I : PP → Nat → PP, I = (fun K n lv st M' => ∃ k i, lv = [(0, .ref 76), (1, .int (nI k)), (2, .int (nI i))] ∧ st = [] ∧ k < dn D ∧ la D k + 1 ≤ i ∧ i ≤ 16 ∧ n = 16 - i ∧ D 6 k = 0 ∧ bhd (gon D) (16 - i) i = hB D k ∧ Sm YL M M' ∧ LK M' (gon D) (fun j => edg D k j || decide (hA D k = nI j)) (pa (strn X D k) (hA D k) (pul X D k)) ∧ ∀ M2, Sm YL M M2 → LK M2 (gon D) (edg D (k + 1)) (strn X D (k + 1)) → K [(0, .ref 76), (1, .int (nI (k + 1)))] [] M2) := ⟨_, rfl⟩
    have L155 : ∀ K92, Sj p l e 6 s m args below meth c 3 g (MQ below (cQc g Q) args s 0 0 (gA g)) 92 K92 → Sj p l e 6 s m args below meth c 3 g (MQ below (cQc g Q) args s 0 0 (gA g)) 155 (fun lv st M => ∃ n, I155 K92 n lv st M) := by
      intro K92 k92
      refine s_ex (s_loop (I155 K92) (fun K155 k155 => WX6_looks_155 C (t_X6_pullsAt hg) (by decide) s_F s_F s_F k92 s_F k155) ?_)
      intro n lv st M1 K155 hK155 hI; rw [hI155] at hI; obtain ⟨k, i, rfl, rfl, hk, h1, h2, rfl, h6, hb, hs, hl, hK⟩ := hI
      unfold BX6_looks_155
      generalize hB176 : BX6_looks_176 g Q (T_X6_pullsAt g) (fun _ _ _ => False) (fun _ _ _ => False) (fun _ _ _ => False) K92 (fun _ _ _ => False) K155 = B176
      simp only [T_X6_pullsAt, i_const, i_lconst, i_iload, i_aload, i_lload, i_istore, i_astore, i_lstore, i_iinc, i_bin, i_div, i_un, i_i2l, i_l2i, i_lbin, i_lcmp, i_if, i_icmp, i_dup, i_dup_x1, i_dup2, i_pop, i_geti, i_getr, i_getd, i_puti, i_putz, i_putd, i_iald, i_bald, i_aald, i_iast, i_bast, i_alen, i_keep, i_ret, i_retz, i_reta, i_retl, i_retv, i_callv, i_callk, i_calls, i_mm, i_copy, i_under, i_undld, i_ldcs, i_sw, q_swc0, q_swc1, q_lg0, q_lg1, q_lent0, q_lent1, lset, lset2, q_lins0, q_lins1, q_ldel0, q_ldel1, q_ldel20, q_ldel21, q_lkeep0, q_lkeep1, q_memb0, q_memb1, cat2, Nat.reduceBEq, decide_true, decide_false, decide_eq_true_eq, cond_true, cond_false, Bool.and_true, Bool.and_false, Bool.true_and, Bool.false_and, f_iadd, f_isub, f_imul, f_ishl, f_ishr, f_iushr, f_iand, f_ior, f_idiv, f_irem, f_ineg, f_i2b, f_i2s, f_ladd, f_lmul, c_eq, c_ne, c_lt, c_ge, c_gt, c_le, cc_eq, cc_ne, cc_lt, cc_ge, cc_gt, cc_le, rfo, aof, csum, Value.category, List.take, List.drop, List.reverse, List.reverseAux, List.map, List.sum_cons, List.sum_nil, List.cons_append, List.nil_append, Option.toList, List.mem_cons, List.not_mem_nil, List.length_cons, List.length_nil, reduceIte, Nat.reduceEqDiff, Nat.reduceAdd, Nat.reduceLeDiff, Nat.reduceLT, a_day, Nat.zero_ne_one, Nat.one_ne_zero, false_and, and_false, true_and, and_true, or_false, false_or, or_true, true_or, not_true_eq_false, not_false_eq_true, Nat.zero_add, Nat.add_zero, Nat.le_refl, Nat.lt_irrefl, Nat.zero_lt_succ, Nat.zero_le, forall_const, List.cons.injEq, Value.int.injEq, Value.ref.injEq, Value.long.injEq, and_assoc, exists_and_left, exists_eq_left']
      try simp only [forall_eq]
      obtain ⟨ko, kd', kx⟩ := keep M1 hs
      obtain ⟨w1, w2, w3, w4, -⟩ := hseam k hk
      have go : (nI i = hB D k ∨ (nI i = nI 16 ∧ hB D k = -1)) → B176 [(0, .ref 76), (1, .int (nI k)), (2, .int (nI i))] [] M1 := by
        intro hx
        subst hB176
        unfold BX6_looks_176
        simp only [i_const, i_lconst, i_iload, i_aload, i_lload, i_istore, i_astore, i_lstore, i_iinc, i_bin, i_div, i_un, i_i2l, i_l2i, i_lbin, i_lcmp, i_if, i_icmp, i_dup, i_dup_x1, i_dup2, i_pop, i_geti, i_getr, i_getd, i_puti, i_putz, i_putd, i_iald, i_bald, i_aald, i_iast, i_bast, i_alen, i_keep, i_ret, i_retz, i_reta, i_retl, i_retv, i_callv, i_callk, i_calls, i_mm, i_copy, i_under, i_undld, i_ldcs, i_sw, q_swc0, q_swc1, q_lg0, q_lg1, q_lent0, q_lent1, lset, lset2, q_lins0, q_lins1, q_ldel0, q_ldel1, q_ldel20, q_ldel21, q_lkeep0, q_lkeep1, q_memb0, q_memb1, cat2, Nat.reduceBEq, decide_true, decide_false, decide_eq_true_eq, cond_true, cond_false, Bool.and_true, Bool.and_false, Bool.true_and, Bool.false_and, f_iadd, f_isub, f_imul, f_ishl, f_ishr, f_iushr, f_iand, f_ior, f_idiv, f_irem, f_ineg, f_i2b, f_i2s, f_ladd, f_lmul, c_eq, c_ne, c_lt, c_ge, c_gt, c_le, cc_eq, cc_ne, cc_lt, cc_ge, cc_gt, cc_le, rfo, aof, csum, Value.category, List.take, List.drop, List.reverse, List.reverseAux, List.map, List.sum_cons, List.sum_nil, List.cons_append, List.nil_append, Option.toList, List.mem_cons, List.not_mem_nil, List.length_cons, List.length_nil, reduceIte, Nat.reduceEqDiff, Nat.reduceAdd, Nat.reduceLeDiff, Nat.reduceLT, a_day, Nat.zero_ne_one, Nat.one_ne_zero, false_and, and_false, true_and, and_true, or_false, false_or, or_true, true_or, not_true_eq_false, not_false_eq_true, Nat.zero_add, Nat.add_zero, Nat.le_refl, Nat.lt_irrefl, Nat.zero_lt_succ, Nat.zero_le, forall_const, List.cons.injEq, Value.int.injEq, Value.ref.injEq, Value.long.injEq, and_assoc, exists_and_left, exists_eq_left']
        refine ⟨(m_76 hg).1, (m_76 hg).2.1, looks_at ko kd' kx hk hx (bhd_ok _ (by omega)) hl fun M2 hs2 hl2 => ?_⟩
        simp only [i_const, i_lconst, i_iload, i_aload, i_lload, i_istore, i_astore, i_lstore, i_iinc, i_bin, i_div, i_un, i_i2l, i_l2i, i_lbin, i_lcmp, i_if, i_icmp, i_dup, i_dup_x1, i_dup2, i_pop, i_geti, i_getr, i_getd, i_puti, i_putz, i_putd, i_iald, i_bald, i_aald, i_iast, i_bast, i_alen, i_keep, i_ret, i_retz, i_reta, i_retl, i_retv, i_callv, i_callk, i_calls, i_mm, i_copy, i_under, i_undld, i_ldcs, i_sw, q_swc0, q_swc1, q_lg0, q_lg1, q_lent0, q_lent1, lset, lset2, q_lins0, q_lins1, q_ldel0, q_ldel1, q_ldel20, q_ldel21, q_lkeep0, q_lkeep1, q_memb0, q_memb1, cat2, Nat.reduceBEq, decide_true, decide_false, decide_eq_true_eq, cond_true, cond_false, Bool.and_true, Bool.and_false, Bool.true_and, Bool.false_and, f_iadd, f_isub, f_imul, f_ishl, f_ishr, f_iushr, f_iand, f_ior, f_idiv, f_irem, f_ineg, f_i2b, f_i2s, f_ladd, f_lmul, c_eq, c_ne, c_lt, c_ge, c_gt, c_le, cc_eq, cc_ne, cc_lt, cc_ge, cc_gt, cc_le, rfo, aof, csum, Value.category, List.take, List.drop, List.reverse, List.reverseAux, List.map, List.sum_cons, List.sum_nil, List.cons_append, List.nil_append, Option.toList, List.mem_cons, List.not_mem_nil, List.length_cons, List.length_nil, reduceIte, Nat.reduceEqDiff, Nat.reduceAdd, Nat.reduceLeDiff, Nat.reduceLT, a_day, Nat.zero_ne_one, Nat.one_ne_zero, false_and, and_false, true_and, and_true, or_false, false_or, or_true, true_or, not_true_eq_false, not_false_eq_true, Nat.zero_add, Nat.add_zero, Nat.le_refl, Nat.lt_irrefl, Nat.zero_lt_succ, Nat.zero_le, forall_const, List.cons.injEq, Value.int.injEq, Value.ref.injEq, Value.long.injEq, and_assoc, exists_and_left, exists_eq_left', forall_eq]
        rw [nI_1]
        refine hK M2 (hs.tr hs2) fun j hj => ?_
        obtain ⟨a, b, c⟩ := hl2 j hj
        refine ⟨a, ?_, ?_⟩
        · rw [b]; refine b2c ?_; simp only [edg, h6, decide_true, Bool.true_and, Bool.or_assoc]
        · rw [c]; simp only [strn, if_pos h6]
      rw [show (16 : Int32) = nI 16 from rfl, nI_leI (by decide) (by omega)]
      refine ⟨fun z => ?_, fun z => ⟨m_76 hg, m_90 hg, vm l_90 (by omega) (by decide), ?_⟩⟩
      · have : i = 16 := by omega
        subst this
        exact go (Or.inr ⟨rfl, hb.symm⟩)
      · rw [nI_clamp (by omega), (hl i (by omega)).1, nI_1]
        rw [show 16 - i = (16 - (i + 1)) + 1 by omega] at hb
        simp only [bhd] at hb
        refine ⟨fun y => go (Or.inl ?_), fun y => ?_⟩
        · have : ¬ gon D i = true := b2i_0.mp y
          rw [if_neg this] at hb
          exact hb
        · have : gon D i = true := Decidable.not_not.mp (fun q => y (b2i_f q))
          rw [if_pos this] at hb
          refine hK155 (16 - (i + 1)) _ _ _ (by omega) ?_
          rw [hI155]
          exact ⟨k, i + 1, rfl, rfl, hk, by omega, by omega, rfl, h6, hb, hs, hl, hK⟩
    have L121 : ∀ K92, Sj p l e 6 s m args below meth c 3 g (MQ below (cQc g Q) args s 0 0 (gA g)) 92 K92 → Sj p l e 6 s m args below meth c 3 g (MQ below (cQc g Q) args s 0 0 (gA g)) 121 (fun lv st M => ∃ n, I121 K92 n lv st M) := by
      intro K92 k92
      refine s_ex (s_loop (I121 K92) (fun K121 k121 => WX6_looks_121 C (t_X6_pullsAt hg) (by decide) s_F s_F s_F k92 k121 (L155 _ k92)) ?_)
      intro n lv st M1 K121 hK121 hI; rw [hI121] at hI; obtain ⟨k, rfl, rfl, hk, h1, h6, hb, hs, hl, hK⟩ := hI
      generalize hE155 : (fun lv st M => ∃ n, I155 K92 n lv st M) = E155
      have iE155 : ∀ n lv st M, I155 K92 n lv st M → E155 lv st M := fun n lv st M h => by rw [← hE155]; exact ⟨n, h⟩
      unfold BX6_looks_121
      generalize hB140 : BX6_looks_140 g Q (T_X6_pullsAt g) (fun _ _ _ => False) (fun _ _ _ => False) (fun _ _ _ => False) K92 K121 E155 = B140
      simp only [T_X6_pullsAt, i_const, i_lconst, i_iload, i_aload, i_lload, i_istore, i_astore, i_lstore, i_iinc, i_bin, i_div, i_un, i_i2l, i_l2i, i_lbin, i_lcmp, i_if, i_icmp, i_dup, i_dup_x1, i_dup2, i_pop, i_geti, i_getr, i_getd, i_puti, i_putz, i_putd, i_iald, i_bald, i_aald, i_iast, i_bast, i_alen, i_keep, i_ret, i_retz, i_reta, i_retl, i_retv, i_callv, i_callk, i_calls, i_mm, i_copy, i_under, i_undld, i_ldcs, i_sw, q_swc0, q_swc1, q_lg0, q_lg1, q_lent0, q_lent1, lset, lset2, q_lins0, q_lins1, q_ldel0, q_ldel1, q_ldel20, q_ldel21, q_lkeep0, q_lkeep1, q_memb0, q_memb1, cat2, Nat.reduceBEq, decide_true, decide_false, decide_eq_true_eq, cond_true, cond_false, Bool.and_true, Bool.and_false, Bool.true_and, Bool.false_and, f_iadd, f_isub, f_imul, f_ishl, f_ishr, f_iushr, f_iand, f_ior, f_idiv, f_irem, f_ineg, f_i2b, f_i2s, f_ladd, f_lmul, c_eq, c_ne, c_lt, c_ge, c_gt, c_le, cc_eq, cc_ne, cc_lt, cc_ge, cc_gt, cc_le, rfo, aof, csum, Value.category, List.take, List.drop, List.reverse, List.reverseAux, List.map, List.sum_cons, List.sum_nil, List.cons_append, List.nil_append, Option.toList, List.mem_cons, List.not_mem_nil, List.length_cons, List.length_nil, reduceIte, Nat.reduceEqDiff, Nat.reduceAdd, Nat.reduceLeDiff, Nat.reduceLT, a_day, Nat.zero_ne_one, Nat.one_ne_zero, false_and, and_false, true_and, and_true, or_false, false_or, or_true, true_or, not_true_eq_false, not_false_eq_true, Nat.zero_add, Nat.add_zero, Nat.le_refl, Nat.lt_irrefl, Nat.zero_lt_succ, Nat.zero_le, forall_const, List.cons.injEq, Value.int.injEq, Value.ref.injEq, Value.long.injEq, and_assoc, exists_and_left, exists_eq_left']
      try simp only [forall_eq]
      obtain ⟨ko, kd', kx⟩ := keep M1 hs
      obtain ⟨w1, w2, w3, w4, -⟩ := hseam k hk
      have go : nI n - 1 = hA D k → B140 [(0, .ref 76), (1, .int (nI k)), (2, .int (nI n - 1))] [] M1 := by
        intro hx
        subst hB140
        unfold BX6_looks_140
        generalize hB146 : BX6_looks_146 g Q (T_X6_pullsAt g) (fun _ _ _ => False) (fun _ _ _ => False) (fun _ _ _ => False) K92 K121 E155 = B146
        simp only [i_const, i_lconst, i_iload, i_aload, i_lload, i_istore, i_astore, i_lstore, i_iinc, i_bin, i_div, i_un, i_i2l, i_l2i, i_lbin, i_lcmp, i_if, i_icmp, i_dup, i_dup_x1, i_dup2, i_pop, i_geti, i_getr, i_getd, i_puti, i_putz, i_putd, i_iald, i_bald, i_aald, i_iast, i_bast, i_alen, i_keep, i_ret, i_retz, i_reta, i_retl, i_retv, i_callv, i_callk, i_calls, i_mm, i_copy, i_under, i_undld, i_ldcs, i_sw, q_swc0, q_swc1, q_lg0, q_lg1, q_lent0, q_lent1, lset, lset2, q_lins0, q_lins1, q_ldel0, q_ldel1, q_ldel20, q_ldel21, q_lkeep0, q_lkeep1, q_memb0, q_memb1, cat2, Nat.reduceBEq, decide_true, decide_false, decide_eq_true_eq, cond_true, cond_false, Bool.and_true, Bool.and_false, Bool.true_and, Bool.false_and, f_iadd, f_isub, f_imul, f_ishl, f_ishr, f_iushr, f_iand, f_ior, f_idiv, f_irem, f_ineg, f_i2b, f_i2s, f_ladd, f_lmul, c_eq, c_ne, c_lt, c_ge, c_gt, c_le, cc_eq, cc_ne, cc_lt, cc_ge, cc_gt, cc_le, rfo, aof, csum, Value.category, List.take, List.drop, List.reverse, List.reverseAux, List.map, List.sum_cons, List.sum_nil, List.cons_append, List.nil_append, Option.toList, List.mem_cons, List.not_mem_nil, List.length_cons, List.length_nil, reduceIte, Nat.reduceEqDiff, Nat.reduceAdd, Nat.reduceLeDiff, Nat.reduceLT, a_day, Nat.zero_ne_one, Nat.one_ne_zero, false_and, and_false, true_and, and_true, or_false, false_or, or_true, true_or, not_true_eq_false, not_false_eq_true, Nat.zero_add, Nat.add_zero, Nat.le_refl, Nat.lt_irrefl, Nat.zero_lt_succ, Nat.zero_le, forall_const, List.cons.injEq, Value.int.injEq, Value.ref.injEq, Value.long.injEq, and_assoc, exists_and_left, exists_eq_left']
        refine ⟨(m_76 hg).1, (m_76 hg).2.1, looks_at ko kd' kx hk (Or.inl hx) (ahd_ok _ (by omega)) hl fun M2 hs2 hl2 => ?_⟩
        obtain ⟨d3, d4, d6⟩ := ds M2 (hs.tr hs2) k hk
        subst hB146
        unfold BX6_looks_146
        simp only [T_X6_pullsAt, i_const, i_lconst, i_iload, i_aload, i_lload, i_istore, i_astore, i_lstore, i_iinc, i_bin, i_div, i_un, i_i2l, i_l2i, i_lbin, i_lcmp, i_if, i_icmp, i_dup, i_dup_x1, i_dup2, i_pop, i_geti, i_getr, i_getd, i_puti, i_putz, i_putd, i_iald, i_bald, i_aald, i_iast, i_bast, i_alen, i_keep, i_ret, i_retz, i_reta, i_retl, i_retv, i_callv, i_callk, i_calls, i_mm, i_copy, i_under, i_undld, i_ldcs, i_sw, q_swc0, q_swc1, q_lg0, q_lg1, q_lent0, q_lent1, lset, lset2, q_lins0, q_lins1, q_ldel0, q_ldel1, q_ldel20, q_ldel21, q_lkeep0, q_lkeep1, q_memb0, q_memb1, cat2, Nat.reduceBEq, decide_true, decide_false, decide_eq_true_eq, cond_true, cond_false, Bool.and_true, Bool.and_false, Bool.true_and, Bool.false_and, f_iadd, f_isub, f_imul, f_ishl, f_ishr, f_iushr, f_iand, f_ior, f_idiv, f_irem, f_ineg, f_i2b, f_i2s, f_ladd, f_lmul, c_eq, c_ne, c_lt, c_ge, c_gt, c_le, cc_eq, cc_ne, cc_lt, cc_ge, cc_gt, cc_le, rfo, aof, csum, Value.category, List.take, List.drop, List.reverse, List.reverseAux, List.map, List.sum_cons, List.sum_nil, List.cons_append, List.nil_append, Option.toList, List.mem_cons, List.not_mem_nil, List.length_cons, List.length_nil, reduceIte, Nat.reduceEqDiff, Nat.reduceAdd, Nat.reduceLeDiff, Nat.reduceLT, a_day, Nat.zero_ne_one, Nat.one_ne_zero, false_and, and_false, true_and, and_true, or_false, false_or, or_true, true_or, not_true_eq_false, not_false_eq_true, Nat.zero_add, Nat.add_zero, Nat.le_refl, Nat.lt_irrefl, Nat.zero_lt_succ, Nat.zero_le, forall_const, List.cons.injEq, Value.int.injEq, Value.ref.injEq, Value.long.injEq, and_assoc, exists_and_left, exists_eq_left']
        try simp only [forall_eq]
        rw [nI_clamp (by omega), d4, nI_1]
        refine ⟨m_76 hg, m_81 hg, vm l_81 (by omega) (by decide), iE155 (16 - (la D k + 1)) _ _ _ ?_⟩
        rw [hI155]
        exact ⟨k, la D k + 1, rfl, rfl, hk, by omega, by omega, rfl, h6, by rw [show 16 - (la D k + 1) = 15 - la D k by omega]; rfl, hs.tr hs2, hl2, hK⟩
      match n, hK121, h1, hb, go with
      | 0, _, _, hb, go => exact ⟨fun _ => go hb, fun z => absurd (by decide) z⟩
      | i + 1, hK121, h1, hb, go =>
        rw [nI_pred] at *
        refine ⟨fun z => absurd z (nI_pos (by omega)), fun _ => ⟨m_76 hg, m_90 hg, vm l_90 (by omega) (by decide), ?_⟩⟩
        rw [nI_clamp (by omega), (hl i (by omega)).1]
        simp only [ahd] at hb
        refine ⟨fun y => go ?_, fun y => ?_⟩
        · rw [if_neg (b2i_0.mp y)] at hb
          exact hb
        · rw [if_pos (Decidable.not_not.mp (fun q => y (b2i_f q)))] at hb
          refine hK121 i _ _ _ (by omega) ?_
          rw [hI121]
          exact ⟨k, by rw [Int32.sub_eq_add_neg], rfl, hk, by omega, h6, hb, hs, hl, hK⟩
      
    have L92 : Sj p l e 6 s m args below meth c 3 g (MQ below (cQc g Q) args s 0 0 (gA g)) 92 E92 := by
      rw [hE92]
      refine s_ex (s_loop I92 (fun K92 k92 => WX6_looks_92 C (t_X6_pullsAt hg) (by decide) s_F s_F s_F k92 (L121 _ k92) (L155 _ k92)) ?_)
      intro n lv st M1 K92 hK92 hI; rw [hI92] at hI; obtain ⟨k, rfl, rfl, hk, rfl, hs, hl⟩ := hI
      generalize hE155 : (fun lv st M => ∃ n, I155 K92 n lv st M) = E155
      have iE155 : ∀ n lv st M, I155 K92 n lv st M → E155 lv st M := fun n lv st M h => by rw [← hE155]; exact ⟨n, h⟩
      generalize hE121 : (fun lv st M => ∃ n, I121 K92 n lv st M) = E121
      have iE121 : ∀ n lv st M, I121 K92 n lv st M → E121 lv st M := fun n lv st M h => by rw [← hE121]; exact ⟨n, h⟩
      unfold BX6_looks_92
      simp only [T_X6_pullsAt, i_const, i_lconst, i_iload, i_aload, i_lload, i_istore, i_astore, i_lstore, i_iinc, i_bin, i_div, i_un, i_i2l, i_l2i, i_lbin, i_lcmp, i_if, i_icmp, i_dup, i_dup_x1, i_dup2, i_pop, i_geti, i_getr, i_getd, i_puti, i_putz, i_putd, i_iald, i_bald, i_aald, i_iast, i_bast, i_alen, i_keep, i_ret, i_retz, i_reta, i_retl, i_retv, i_callv, i_callk, i_calls, i_mm, i_copy, i_under, i_undld, i_ldcs, i_sw, q_swc0, q_swc1, q_lg0, q_lg1, q_lent0, q_lent1, lset, lset2, q_lins0, q_lins1, q_ldel0, q_ldel1, q_ldel20, q_ldel21, q_lkeep0, q_lkeep1, q_memb0, q_memb1, cat2, Nat.reduceBEq, decide_true, decide_false, decide_eq_true_eq, cond_true, cond_false, Bool.and_true, Bool.and_false, Bool.true_and, Bool.false_and, f_iadd, f_isub, f_imul, f_ishl, f_ishr, f_iushr, f_iand, f_ior, f_idiv, f_irem, f_ineg, f_i2b, f_i2s, f_ladd, f_lmul, c_eq, c_ne, c_lt, c_ge, c_gt, c_le, cc_eq, cc_ne, cc_lt, cc_ge, cc_gt, cc_le, rfo, aof, csum, Value.category, List.take, List.drop, List.reverse, List.reverseAux, List.map, List.sum_cons, List.sum_nil, List.cons_append, List.nil_append, Option.toList, List.mem_cons, List.not_mem_nil, List.length_cons, List.length_nil, reduceIte, Nat.reduceEqDiff, Nat.reduceAdd, Nat.reduceLeDiff, Nat.reduceLT, a_day, Nat.zero_ne_one, Nat.one_ne_zero, false_and, and_false, true_and, and_true, or_false, false_or, or_true, true_or, not_true_eq_false, not_false_eq_true, Nat.zero_add, Nat.add_zero, Nat.le_refl, Nat.lt_irrefl, Nat.zero_lt_succ, Nat.zero_le, forall_const, List.cons.injEq, Value.int.injEq, Value.ref.injEq, Value.long.injEq, and_assoc, exists_and_left, exists_eq_left']
      try simp only [forall_eq]
      obtain ⟨ko, kd', kx⟩ := keep M1 hs
      rw [f M1 hs 76 2 (by decide), hmany, nI_leI (by omega) (by omega)]
      refine ⟨m_76 hg, fun z => ?_, fun z => ?_⟩
      · have hkk : k = dn D := by omega
        subst hkk
        exact h M1 hs hl
      · have hlt : k < dn D := by omega
        obtain ⟨d3, d4, d6⟩ := ds M1 hs k hlt
        obtain ⟨w1, w2, w3, w4, -⟩ := hseam k hlt
        rw [nI_clamp (by omega), d3, d6, nI_1]
        have go : ∀ M2, Sm YL M M2 → LK M2 (gon D) (edg D (k + 1)) (strn X D (k + 1)) → K92 [(0, .ref 76), (1, .int (nI (k + 1)))] [] M2 := fun M2 hs2 hl2 => by
          refine hK92 (dn D - (k + 1)) _ _ _ (by omega) ?_
          rw [hI92]
          exact ⟨k + 1, rfl, rfl, by omega, rfl, hs2, hl2⟩
        refine ⟨m_76 hg, m_83 hg, vm l_83 (by omega) (by decide), fun y => ⟨m_76 hg, m_80 hg, vm l_80 (by omega) (by decide), iE121 (fi D k) _ _ _ ?_⟩, fun y => go M1 hs ?_⟩
        · rw [hI121]
          exact ⟨k, rfl, rfl, hlt, Nat.le_refl _, y, rfl, hs, hl, go⟩
        · intro j hj
          obtain ⟨a, b, c⟩ := hl j hj
          exact ⟨a, by rw [b]; simp [edg, y], by rw [c]; simp only [strn, if_neg y]⟩
    have L52 : ∀ K37, Sj p l e 6 s m args below meth c 3 g (MQ below (cQc g Q) args s 0 0 (gA g)) 37 K37 → Sj p l e 6 s m args below meth c 3 g (MQ below (cQc g Q) args s 0 0 (gA g)) 52 (fun lv st M => ∃ n, I52 K37 n lv st M) := by
      intro K37 k37
      refine s_ex (s_loop (I52 K37) (fun K52 k52 => WX6_looks_52 C (t_X6_pullsAt hg) (by decide) s_F k37 k52 L92 s_F s_F) ?_)
      intro n lv st M1 K52 hK52 hI; rw [hI52] at hI; obtain ⟨k, i, rfl, rfl, hk, h1, h2, rfl, hs, hl, hK⟩ := hI
      unfold BX6_looks_52
      simp only [T_X6_pullsAt, i_const, i_lconst, i_iload, i_aload, i_lload, i_istore, i_astore, i_lstore, i_iinc, i_bin, i_div, i_un, i_i2l, i_l2i, i_lbin, i_lcmp, i_if, i_icmp, i_dup, i_dup_x1, i_dup2, i_pop, i_geti, i_getr, i_getd, i_puti, i_putz, i_putd, i_iald, i_bald, i_aald, i_iast, i_bast, i_alen, i_keep, i_ret, i_retz, i_reta, i_retl, i_retv, i_callv, i_callk, i_calls, i_mm, i_copy, i_under, i_undld, i_ldcs, i_sw, q_swc0, q_swc1, q_lg0, q_lg1, q_lent0, q_lent1, lset, lset2, q_lins0, q_lins1, q_ldel0, q_ldel1, q_ldel20, q_ldel21, q_lkeep0, q_lkeep1, q_memb0, q_memb1, cat2, Nat.reduceBEq, decide_true, decide_false, decide_eq_true_eq, cond_true, cond_false, Bool.and_true, Bool.and_false, Bool.true_and, Bool.false_and, f_iadd, f_isub, f_imul, f_ishl, f_ishr, f_iushr, f_iand, f_ior, f_idiv, f_irem, f_ineg, f_i2b, f_i2s, f_ladd, f_lmul, c_eq, c_ne, c_lt, c_ge, c_gt, c_le, cc_eq, cc_ne, cc_lt, cc_ge, cc_gt, cc_le, rfo, aof, csum, Value.category, List.take, List.drop, List.reverse, List.reverseAux, List.map, List.sum_cons, List.sum_nil, List.cons_append, List.nil_append, Option.toList, List.mem_cons, List.not_mem_nil, List.length_cons, List.length_nil, reduceIte, Nat.reduceEqDiff, Nat.reduceAdd, Nat.reduceLeDiff, Nat.reduceLT, a_day, Nat.zero_ne_one, Nat.one_ne_zero, false_and, and_false, true_and, and_true, or_false, false_or, or_true, true_or, not_true_eq_false, not_false_eq_true, Nat.zero_add, Nat.add_zero, Nat.le_refl, Nat.lt_irrefl, Nat.zero_lt_succ, Nat.zero_le, forall_const, List.cons.injEq, Value.int.injEq, Value.ref.injEq, Value.long.injEq, and_assoc, exists_and_left, exists_eq_left']
      try simp only [forall_eq]
      obtain ⟨d3, d4, d6⟩ := ds M1 hs k hk
      obtain ⟨w1, w2, w3, w4, -⟩ := hseam k hk
      rw [nI_clamp (show k < 2 ^ 31 by omega), d4, d6, nI_clamp (show i < 2 ^ 31 by omega), i_lt, nI_toInt (by omega), nI_toInt (by omega), nI_1, nI_1]
      refine ⟨m_76 hg, m_81 hg, vm l_81 (by omega) (by decide), fun z => ?_, fun z => ⟨m_76 hg, m_83 hg, vm l_83 (by omega) (by decide), fun y => ?_, fun y => ⟨m_76 hg, m_90 hg, vm l_90 (by omega) (by decide), ?_⟩⟩⟩
      · have hi : i = la D k + 1 := by omega
        refine hK M1 hs fun j hj => ?_
        obtain ⟨a, b, c⟩ := hl j hj
        refine ⟨?_, b, c⟩
        rw [a]
        refine b2c ?_
        simp only [gonN, hi, Nat.lt_succ_iff]
      · refine hK52 (la D k + 1 - (i + 1)) _ _ _ (by omega) ?_
        rw [hI52]
        refine ⟨k, i + 1, rfl, rfl, hk, by omega, by omega, rfl, hs, fun j hj => ?_, hK⟩
        obtain ⟨a, b, c⟩ := hl j hj
        refine ⟨?_, b, c⟩
        rw [a]; simp [y]
      · refine hK52 (la D k + 1 - (i + 1)) _ _ _ (by omega) ?_
        rw [hI52]
        have y0 := Decidable.not_not.mp y
        refine ⟨k, i + 1, rfl, rfl, hk, by omega, by omega, rfl, hs.set _ (by unfold YL; omega), fun j hj => ?_, hK⟩
        obtain ⟨a, b, c⟩ := hl j hj
        refine ⟨?_, by rw [ms_q (by decide)]; exact b, by rw [ms_q (by decide)]; exact c⟩
        by_cases e : j = i
        · subst e
          rw [ms_s, b2i_t]
          simp [y0, h1]
        · rw [ms_j e, a]
          have : j < i + 1 ↔ j < i := by omega
          simp only [this]
    have L37 : Sj p l e 6 s m args below meth c 3 g (MQ below (cQc g Q) args s 0 0 (gA g)) 37 E37 := by
      rw [hE37]
      refine s_ex (s_loop I37 (fun K37 k37 => WX6_looks_37 C (t_X6_pullsAt hg) (by decide) s_F k37 (L52 _ k37) L92 s_F s_F) ?_)
      intro n lv st M1 K37 hK37 hI; rw [hI37] at hI; obtain ⟨k, rfl, rfl, hk, rfl, hs, hl⟩ := hI
      generalize hE52 : (fun lv st M => ∃ n, I52 K37 n lv st M) = E52
      have iE52 : ∀ n lv st M, I52 K37 n lv st M → E52 lv st M := fun n lv st M h => by rw [← hE52]; exact ⟨n, h⟩
      unfold BX6_looks_37
      simp only [T_X6_pullsAt, i_const, i_lconst, i_iload, i_aload, i_lload, i_istore, i_astore, i_lstore, i_iinc, i_bin, i_div, i_un, i_i2l, i_l2i, i_lbin, i_lcmp, i_if, i_icmp, i_dup, i_dup_x1, i_dup2, i_pop, i_geti, i_getr, i_getd, i_puti, i_putz, i_putd, i_iald, i_bald, i_aald, i_iast, i_bast, i_alen, i_keep, i_ret, i_retz, i_reta, i_retl, i_retv, i_callv, i_callk, i_calls, i_mm, i_copy, i_under, i_undld, i_ldcs, i_sw, q_swc0, q_swc1, q_lg0, q_lg1, q_lent0, q_lent1, lset, lset2, q_lins0, q_lins1, q_ldel0, q_ldel1, q_ldel20, q_ldel21, q_lkeep0, q_lkeep1, q_memb0, q_memb1, cat2, Nat.reduceBEq, decide_true, decide_false, decide_eq_true_eq, cond_true, cond_false, Bool.and_true, Bool.and_false, Bool.true_and, Bool.false_and, f_iadd, f_isub, f_imul, f_ishl, f_ishr, f_iushr, f_iand, f_ior, f_idiv, f_irem, f_ineg, f_i2b, f_i2s, f_ladd, f_lmul, c_eq, c_ne, c_lt, c_ge, c_gt, c_le, cc_eq, cc_ne, cc_lt, cc_ge, cc_gt, cc_le, rfo, aof, csum, Value.category, List.take, List.drop, List.reverse, List.reverseAux, List.map, List.sum_cons, List.sum_nil, List.cons_append, List.nil_append, Option.toList, List.mem_cons, List.not_mem_nil, List.length_cons, List.length_nil, reduceIte, Nat.reduceEqDiff, Nat.reduceAdd, Nat.reduceLeDiff, Nat.reduceLT, a_day, Nat.zero_ne_one, Nat.one_ne_zero, false_and, and_false, true_and, and_true, or_false, false_or, or_true, true_or, not_true_eq_false, not_false_eq_true, Nat.zero_add, Nat.add_zero, Nat.le_refl, Nat.lt_irrefl, Nat.zero_lt_succ, Nat.zero_le, forall_const, List.cons.injEq, Value.int.injEq, Value.ref.injEq, Value.long.injEq, and_assoc, exists_and_left, exists_eq_left']
      try simp only [forall_eq]
      obtain ⟨ko, kd', kx⟩ := keep M1 hs
      rw [f M1 hs 76 2 (by decide), hmany, nI_leI (by omega) (by omega)]
      refine ⟨m_76 hg, fun z => ?_, fun z => ?_⟩
      · have hkk : k = dn D := by omega
        subst hkk
        refine iE92 (dn D - 0) _ _ _ ?_
        rw [hI92]
        refine ⟨0, rfl, rfl, by omega, rfl, hs, hl⟩
      · have hlt : k < dn D := by omega
        obtain ⟨d3, d4, d6⟩ := ds M1 hs k hlt
        obtain ⟨w1, w2, w3, w4, -⟩ := hseam k hlt
        rw [nI_clamp (by omega), d3]
        refine ⟨m_76 hg, m_80 hg, vm l_80 (by omega) (by decide), iE52 (la D k + 1 - fi D k) _ _ _ ?_⟩
        rw [hI52]
        refine ⟨k, fi D k, rfl, rfl, hlt, by omega, by omega, rfl, hs, fun j hj => ?_, fun M2 hs2 hl2 => ?_⟩
        · obtain ⟨a, b, c⟩ := hl j hj
          refine ⟨?_, b, c⟩
          rw [a]
          have : ¬ (fi D k ≤ j ∧ j < fi D k) := by omega
          by_cases q : fi D k ≤ j
          · have q2 : ¬ j < fi D k := by omega
            simp [q2]
          · simp [q]
        · refine hK37 (dn D - (k + 1)) _ _ _ (by omega) ?_
          rw [hI37]
          exact ⟨k + 1, rfl, rfl, by omega, rfl, hs2, hl2⟩
    have L2 : Sj p l e 6 s m args below meth c 3 g (MQ below (cQc g Q) args s 0 0 (gA g)) 2 E2 := by
      rw [hE2]
      refine s_ex (s_loop I2 (fun K2 k2 => WX6_looks_2 C (t_X6_pullsAt hg) (by decide) k2 L37 s_F L92 s_F s_F) ?_)
      intro n lv st M1 K2 hK2 hI; rw [hI2] at hI; obtain ⟨k, rfl, rfl, hk, rfl, hs, hz⟩ := hI
      unfold BX6_looks_2
      simp only [T_X6_pullsAt, i_const, i_lconst, i_iload, i_aload, i_lload, i_istore, i_astore, i_lstore, i_iinc, i_bin, i_div, i_un, i_i2l, i_l2i, i_lbin, i_lcmp, i_if, i_icmp, i_dup, i_dup_x1, i_dup2, i_pop, i_geti, i_getr, i_getd, i_puti, i_putz, i_putd, i_iald, i_bald, i_aald, i_iast, i_bast, i_alen, i_keep, i_ret, i_retz, i_reta, i_retl, i_retv, i_callv, i_callk, i_calls, i_mm, i_copy, i_under, i_undld, i_ldcs, i_sw, q_swc0, q_swc1, q_lg0, q_lg1, q_lent0, q_lent1, lset, lset2, q_lins0, q_lins1, q_ldel0, q_ldel1, q_ldel20, q_ldel21, q_lkeep0, q_lkeep1, q_memb0, q_memb1, cat2, Nat.reduceBEq, decide_true, decide_false, decide_eq_true_eq, cond_true, cond_false, Bool.and_true, Bool.and_false, Bool.true_and, Bool.false_and, f_iadd, f_isub, f_imul, f_ishl, f_ishr, f_iushr, f_iand, f_ior, f_idiv, f_irem, f_ineg, f_i2b, f_i2s, f_ladd, f_lmul, c_eq, c_ne, c_lt, c_ge, c_gt, c_le, cc_eq, cc_ne, cc_lt, cc_ge, cc_gt, cc_le, rfo, aof, csum, Value.category, List.take, List.drop, List.reverse, List.reverseAux, List.map, List.sum_cons, List.sum_nil, List.cons_append, List.nil_append, Option.toList, List.mem_cons, List.not_mem_nil, List.length_cons, List.length_nil, reduceIte, Nat.reduceEqDiff, Nat.reduceAdd, Nat.reduceLeDiff, Nat.reduceLT, a_day, Nat.zero_ne_one, Nat.one_ne_zero, false_and, and_false, true_and, and_true, or_false, false_or, or_true, true_or, not_true_eq_false, not_false_eq_true, Nat.zero_add, Nat.add_zero, Nat.le_refl, Nat.lt_irrefl, Nat.zero_lt_succ, Nat.zero_le, forall_const, List.cons.injEq, Value.int.injEq, Value.ref.injEq, Value.long.injEq, and_assoc, exists_and_left, exists_eq_left']
      try simp only [forall_eq]
      rw [show (16 : Int32) = nI 16 from rfl, nI_leI (by decide) (by omega)]
      refine ⟨fun z => ?_, fun z => ?_⟩
      · refine iE37 (dn D - 0) _ _ _ ?_
        rw [hI37]
        refine ⟨0, rfl, rfl, by omega, rfl, hs, fun j hj => ?_⟩
        obtain ⟨a, b, c⟩ := hz j (by omega)
        exact ⟨a, b, c⟩
      · rw [nI_clamp (by omega), nI_1]
        refine ⟨m_76 hg, m_90 hg, vm l_90 (by omega) (by decide), m_76 hg, m_91 hg, vm l_91 (by omega) (by decide), m_76 hg, m_92 hg, vm l_92 (by omega) (by decide), hK2 (16 - (k + 1)) _ _ _ (by omega) ?_⟩
        rw [hI2]
        refine ⟨k + 1, rfl, rfl, by omega, rfl, ((hs.set _ (by unfold YL; omega)).set _ (by unfold YL; omega)).set _ (by unfold YL; omega), fun j hj => ?_⟩
        simp only [mset_app]
        by_cases e : j = k
        · subst e; simp
        · obtain ⟨a, b, c⟩ := hz j (by omega)
          simp [e, a, b, c]
    refine s_of (fun lv st M0 hs => ?_) (WX6_looks_0 C (t_X6_pullsAt hg) (by decide) L2 L37 s_F L92 s_F s_F)
    obtain ⟨rfl, rfl, rfl⟩ := hs
    unfold BX6_looks_0
    simp only [T_X6_pullsAt, i_const, i_lconst, i_iload, i_aload, i_lload, i_istore, i_astore, i_lstore, i_iinc, i_bin, i_div, i_un, i_i2l, i_l2i, i_lbin, i_lcmp, i_if, i_icmp, i_dup, i_dup_x1, i_dup2, i_pop, i_geti, i_getr, i_getd, i_puti, i_putz, i_putd, i_iald, i_bald, i_aald, i_iast, i_bast, i_alen, i_keep, i_ret, i_retz, i_reta, i_retl, i_retv, i_callv, i_callk, i_calls, i_mm, i_copy, i_under, i_undld, i_ldcs, i_sw, q_swc0, q_swc1, q_lg0, q_lg1, q_lent0, q_lent1, lset, lset2, q_lins0, q_lins1, q_ldel0, q_ldel1, q_ldel20, q_ldel21, q_lkeep0, q_lkeep1, q_memb0, q_memb1, cat2, Nat.reduceBEq, decide_true, decide_false, decide_eq_true_eq, cond_true, cond_false, Bool.and_true, Bool.and_false, Bool.true_and, Bool.false_and, f_iadd, f_isub, f_imul, f_ishl, f_ishr, f_iushr, f_iand, f_ior, f_idiv, f_irem, f_ineg, f_i2b, f_i2s, f_ladd, f_lmul, c_eq, c_ne, c_lt, c_ge, c_gt, c_le, cc_eq, cc_ne, cc_lt, cc_ge, cc_gt, cc_le, rfo, aof, csum, Value.category, List.take, List.drop, List.reverse, List.reverseAux, List.map, List.sum_cons, List.sum_nil, List.cons_append, List.nil_append, Option.toList, List.mem_cons, List.not_mem_nil, List.length_cons, List.length_nil, reduceIte, Nat.reduceEqDiff, Nat.reduceAdd, Nat.reduceLeDiff, Nat.reduceLT, a_day, Nat.zero_ne_one, Nat.one_ne_zero, false_and, and_false, true_and, and_true, or_false, false_or, or_true, true_or, not_true_eq_false, not_false_eq_true, Nat.zero_add, Nat.add_zero, Nat.le_refl, Nat.lt_irrefl, Nat.zero_lt_succ, Nat.zero_le, forall_const, List.cons.injEq, Value.int.injEq, Value.ref.injEq, Value.long.injEq, and_assoc, exists_and_left, exists_eq_left']
    try simp only [forall_eq]
    refine iE2 (16 - 0) _ _ _ ?_
    rw [hI2]
    exact ⟨0, rfl, rfl, by omega, rfl, Sm.rf, fun j hj => absurd hj (by omega)⟩
