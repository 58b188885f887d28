/-! ===== the model's machine: its steps ===== -/
def YMb (c0 : Nat) (a b : Nat) : Prop := YMa c0 a b ∨ (a = 76 ∧ 25 ≤ b ∧ b ≤ 27)
def MSt (M : MM) (c0 : Nat) (x : MS) : Prop := MWp M c0 x.1 x.2.1 ∧ M 76 25 = b2i (x.2.2.1 = true) ∧ M 76 26 = b2i (x.2.2.2.1 = true) ∧ M 76 27 = b2i (x.2.2.2.2 = true)
theorem sig_8 {s : Int32} (h : sig s = true) : s = 40 ∨ s = 41 ∨ s = 42 ∨ s = 43 ∨ s = 45 ∨ s = 59 ∨ s = 60 ∨ s = 61 := of_decide_eq_true h
theorem TKm.keep {M M' : MM} {s v : Int32} {Y : Nat → Nat → Prop} (h : TKm M s v) (hs : Sm Y M M') (y : ∀ b, 19 ≤ b → b ≤ 21 → ¬ Y 76 b) : TKm M' s v := by
  have e19 := hs 76 19 (y _ (by decide) (by decide))
  have e20 := hs 76 20 (y _ (by decide) (by decide))
  have e21 := hs 76 21 (y _ (by decide) (by decide))
  unfold TKm at h ⊢
  rw [e19, e20, e21]
  exact h
theorem MSt.to {M M' : MM} {c0 : Nat} {x : MS} (h : MSt M c0 x) (hs : Sm YN M M') : MSt M' c0 x := by
  obtain ⟨a, b, c, d⟩ := h
  have y : ∀ a b, YMa c0 a b → ¬ YN a b := fun a b q => by unfold YMa at q; unfold YN; omega
  exact ⟨a.sm hs y, by rw [hs _ _ (by unfold YN; omega)]; exact b, by rw [hs _ _ (by unfold YN; omega)]; exact c, by rw [hs _ _ (by unfold YN; omega)]; exact d⟩
/-- the kind of the model's token, by its sort -/
def kndS (s : Int32) : Int32 := if s = 0 then 101 else if s = 1 then 120 else if s = 2 then 48 else if s ≤ 9 then 119 else s
theorem TKm.knd {M : MM} {s v : Int32} (h : TKm M s v) : M 76 19 = kndS s := by
  rcases h with ⟨rfl, h⟩ | ⟨rfl, h⟩ | ⟨rfl, h, -⟩ | ⟨w, hw, h, -, rfl, -⟩ | ⟨h1, h⟩
  · rw [h]; rfl
  · rw [h]; rfl
  · rw [h]; rfl
  · rw [h]
    exact ((show ∀ w, w < 12 → kndS (if w < 6 then 3 else nI (w - 2)) = 119 by decide +kernel) w hw).symm
  · rw [h]
    rcases sig_8 h1 with rfl | rfl | rfl | rfl | rfl | rfl | rfl | rfl <;> rfl
/-- all sorts there are -/
def srtS (s : Int32) : Prop := s = 0 ∨ s = 1 ∨ s = 2 ∨ s = 3 ∨ s = 4 ∨ s = 5 ∨ s = 6 ∨ s = 7 ∨ s = 8 ∨ s = 9 ∨ s = 40 ∨ s = 41 ∨ s = 42 ∨ s = 43 ∨ s = 45 ∨ s = 59 ∨ s = 60 ∨ s = 61
theorem TKm.srt {M : MM} {s v : Int32} (h : TKm M s v) : srtS s := by
  rcases h with ⟨rfl, h⟩ | ⟨rfl, h⟩ | ⟨rfl, h, -⟩ | ⟨w, hw, h, -, rfl, -⟩ | ⟨h1, h⟩
  · exact Or.inl rfl
  · exact Or.inr (Or.inl rfl)
  · exact Or.inr (Or.inr (Or.inl rfl))
  · have : ∀ w, w < 12 → (if w < 6 then (3 : Int32) else nI (w - 2)) = 3 ∨ (if w < 6 then (3 : Int32) else nI (w - 2)) = 4 ∨ (if w < 6 then (3 : Int32) else nI (w - 2)) = 5 ∨ (if w < 6 then (3 : Int32) else nI (w - 2)) = 6 ∨ (if w < 6 then (3 : Int32) else nI (w - 2)) = 7 ∨ (if w < 6 then (3 : Int32) else nI (w - 2)) = 8 ∨ (if w < 6 then (3 : Int32) else nI (w - 2)) = 9 := by decide +kernel
    have := this w hw
    unfold srtS
    generalize (if w < 6 then (3 : Int32) else nI (w - 2)) = z at this
    rcases this with q | q | q | q | q | q | q <;> simp [q]
  · have := sig_8 h1
    unfold srtS
    rcases this with q | q | q | q | q | q | q | q <;> simp [q]
/-- its word, where it is one: of the key words -/
theorem TKm.word {M : MM} {s v : Int32} (h : TKm M s v) (h19 : M 76 19 = 119) {w : Nat} (h6 : 6 ≤ w) (hw : w < 12) : M 76 21 = cW w ↔ s = nI (w - 2) := by
  have sg : ∀ s : Int32, srtS s → kndS s = 119 → s = 3 ∨ s = 4 ∨ s = 5 ∨ s = 6 ∨ s = 7 ∨ s = 8 ∨ s = 9 := by
    intro s hs
    rcases hs with rfl | rfl | rfl | rfl | rfl | rfl | rfl | rfl | rfl | rfl | rfl | rfl | rfl | rfl | rfl | rfl | rfl | rfl <;> decide
  have hk := sg s h.srt (h.knd.symm.trans h19)
  rcases h with ⟨rfl, h⟩ | ⟨rfl, h⟩ | ⟨rfl, h, -⟩ | ⟨u, hu, h, h21, rfl, -⟩ | ⟨h1, h⟩
  · exact absurd hk (by decide)
  · exact absurd hk (by decide)
  · exact absurd hk (by decide)
  · rw [h21]
    have key : ∀ u, u < 12 → ∀ w, w < 12 → 6 ≤ w → ((if u < 6 then (3 : Int32) else nI (u - 2)) = nI (w - 2) ↔ u = w) := by decide +kernel
    rw [key u hu w hw h6]
    exact ⟨fun q => cW_inj _ hu _ hw q, fun q => by rw [q]⟩
  · rcases sig_8 h1 with rfl | rfl | rfl | rfl | rfl | rfl | rfl | rfl <;> exact absurd hk (by decide)
theorem TKm.sign {M : MM} {s v : Int32} (h : TKm M s v) {x : Int32} (hx : x = 40 ∨ x = 41 ∨ x = 42 ∨ x = 43 ∨ x = 45 ∨ x = 59 ∨ x = 60 ∨ x = 61) : M 76 19 = x ↔ s = x := by
  rw [h.knd]
  have hs := h.srt
  rcases hs with rfl | rfl | rfl | rfl | rfl | rfl | rfl | rfl | rfl | rfl | rfl | rfl | rfl | rfl | rfl | rfl | rfl | rfl <;> (rcases hx with rfl | rfl | rfl | rfl | rfl | rfl | rfl | rfl <;> decide)
theorem lay_tpr (r : Nat) : ∀ (W o : List Int32), 0 < r → tpr (lay r o W).2 < r
  | [], o, h => h
  | w :: W, o, h => by
    simp only [lay]
    split
    · exact lay_tpr r W _ h
    · next q => exact Nat.lt_of_not_le q
def T_X6_push (g : WG) (as : List Value) (M : MM) (Q : Option Value → MM → Prop) : Prop := ∃ x c0 o W, as = [.ref 76, .int x] ∧ MWp M c0 o W ∧ o.length + W.length < 160 ∧ ∀ M', Sm (YMa c0) M M' → MWp M' c0 o (x :: W) → Q none M'
set_option maxRecDepth 100000 in
set_option maxHeartbeats 1000000 in
theorem t_X6_push {l : Launch} {g : WG} (hg : Full g) : Ct l g yX6_push cX6_push 2 ((Option.none : Option FieldType)) 2 (T_X6_push g) := by
  refine Ct.of (by decide) (fun as M Q h => ?_) (fun p e s m args below meth c as M Q h C => ?_)
  · obtain ⟨x, c0, o, W, rfl, hM, hl, h⟩ := h; exact ⟨by simp, by simp [Value.category]⟩
  · obtain ⟨x, c0, o, W, rfl, hM, hl, h⟩ := h
    refine s_of (fun lv st M0 hs => ?_) (WX6_push_0 C (t_X6_rank hg) (by decide))
    obtain ⟨rfl, rfl, rfl⟩ := hs
    unfold BX6_push_0
    generalize hB33 : BX6_push_33 g Q (T_X6_rank g) = B33
    generalize hB36 : BX6_push_36 g Q (T_X6_rank g) = B36
    simp only [T_X6_rank, i_const, i_lconst, i_iload, i_aload, i_lload, i_istore, i_astore, i_lstore, i_iinc, i_bin, i_div, i_un, i_i2l, i_l2i, i_lbin, i_lcmp, i_if, i_icmp, i_dup, i_dup_x1, i_dup2, i_pop, i_geti, i_getr, i_getd, i_puti, i_putz, i_putd, i_iald, i_bald, i_aald, i_iast, i_bast, i_alen, i_keep, i_ret, i_retz, i_reta, i_retl, i_retv, i_callv, i_callk, i_calls, i_mm, i_copy, i_under, i_undld, i_ldcs, i_sw, q_swc0, q_swc1, q_lg0, q_lg1, q_lent0, q_lent1, lset, lset2, q_lins0, q_lins1, q_ldel0, q_ldel1, q_ldel20, q_ldel21, q_lkeep0, q_lkeep1, q_memb0, q_memb1, cat2, Nat.reduceBEq, decide_true, decide_false, decide_eq_true_eq, cond_true, cond_false, Bool.and_true, Bool.and_false, Bool.true_and, Bool.false_and, f_iadd, f_isub, f_imul, f_ishl, f_ishr, f_iushr, f_iand, f_ior, f_idiv, f_irem, f_ineg, f_i2b, f_i2s, f_ladd, f_lmul, c_eq, c_ne, c_lt, c_ge, c_gt, c_le, cc_eq, cc_ne, cc_lt, cc_ge, cc_gt, cc_le, rfo, aof, csum, Value.category, List.take, List.drop, List.reverse, List.reverseAux, List.map, List.sum_cons, List.sum_nil, List.cons_append, List.nil_append, Option.toList, List.mem_cons, List.not_mem_nil, List.length_cons, List.length_nil, reduceIte, Nat.reduceEqDiff, Nat.reduceAdd, Nat.reduceLeDiff, Nat.reduceLT, a_day, Nat.zero_ne_one, Nat.one_ne_zero, false_and, and_false, true_and, and_true, or_false, false_or, or_true, true_or, not_true_eq_false, not_false_eq_true, Nat.zero_add, Nat.add_zero, Nat.le_refl, Nat.lt_irrefl, Nat.zero_lt_succ, Nat.zero_le, forall_const, List.cons.injEq, Value.int.injEq, Value.ref.injEq, Value.long.injEq, and_assoc, exists_and_left, exists_eq_left']
    try simp only [forall_eq]
    obtain ⟨a1, a2, a3, a4, a5, a6, a7⟩ := hM
    have e23 : mset (mset M0 76 23 (nI (W.length + 1))) 88 W.length x 76 23 = nI (W.length + 1) := by rw [ms_q (by decide), ms_s]
    have hs : Sm (YMa c0) M0 (mset (mset M0 76 23 (nI (W.length + 1))) 88 W.length x) := (Sm.rf.set _ (Or.inl ⟨rfl, by omega⟩)).set _ (Or.inr (Or.inl rfl))
    have e24 : mset (mset M0 76 23 (nI (W.length + 1))) 88 W.length x 76 24 = nI (opn W) := by rw [ms_q (by decide), ms_j (by decide)]; exact a3
    have e16 : mset (mset M0 76 23 (nI (W.length + 1))) 88 W.length x 76 16 = nI (c0 + o.length) := by rw [ms_q (by decide), ms_j (by decide)]; exact a4
    have e88 : PS (mset (mset M0 76 23 (nI (W.length + 1))) 88 W.length x 88) (x :: W) := ⟨ms_s _ _ _ _, PS_upd (fun j hj => by rw [ms_j (by omega), ms_q (by decide)]) a2⟩
    have e87 : ∀ j, mset (mset M0 76 23 (nI (W.length + 1))) 88 W.length x 87 j = M0 87 j := fun j => by rw [ms_q (by decide), ms_q (by decide)]
    rw [a1, nI_1, nI_clamp (by omega)]
    obtain ⟨M2, hM2⟩ : ∃ M2, mset (mset M0 76 23 (nI (W.length + 1))) 88 W.length x = M2 := ⟨_, rfl⟩
    rw [hM2] at e23 hs e24 e16 e88 e87 ⊢
    have fin : ∀ M3, Sm (YMa c0) M0 M3 → M3 88 = M2 88 → M3 87 = M2 87 → M3 76 23 = M2 76 23 → M3 76 16 = M2 76 16 → M3 76 24 = nI (opn (x :: W)) → Q none M3 := fun M3 b1 b2 b3 b4 b5 b6 => h M3 b1 ⟨by rw [b4]; exact e23, by rw [b2]; exact e88, b6, by rw [b5]; exact e16, fun t y ht => by rw [b3, e87]; exact a5 t y ht, by simp; omega, a7⟩
    have go36 : (x = 13 ∨ x = 14 ∨ rnk x = 0) → BX6_push_36 g Q (T_X6_rank g) [(0, .ref 76), (1, .int x)] [] M2 := by
      intro hx
      unfold BX6_push_36
      simp only [i_const, i_lconst, i_iload, i_aload, i_lload, i_istore, i_astore, i_lstore, i_iinc, i_bin, i_div, i_un, i_i2l, i_l2i, i_lbin, i_lcmp, i_if, i_icmp, i_dup, i_dup_x1, i_dup2, i_pop, i_geti, i_getr, i_getd, i_puti, i_putz, i_putd, i_iald, i_bald, i_aald, i_iast, i_bast, i_alen, i_keep, i_ret, i_retz, i_reta, i_retl, i_retv, i_callv, i_callk, i_calls, i_mm, i_copy, i_under, i_undld, i_ldcs, i_sw, q_swc0, q_swc1, q_lg0, q_lg1, q_lent0, q_lent1, lset, lset2, q_lins0, q_lins1, q_ldel0, q_ldel1, q_ldel20, q_ldel21, q_lkeep0, q_lkeep1, q_memb0, q_memb1, cat2, Nat.reduceBEq, decide_true, decide_false, decide_eq_true_eq, cond_true, cond_false, Bool.and_true, Bool.and_false, Bool.true_and, Bool.false_and, f_iadd, f_isub, f_imul, f_ishl, f_ishr, f_iushr, f_iand, f_ior, f_idiv, f_irem, f_ineg, f_i2b, f_i2s, f_ladd, f_lmul, c_eq, c_ne, c_lt, c_ge, c_gt, c_le, cc_eq, cc_ne, cc_lt, cc_ge, cc_gt, cc_le, rfo, aof, csum, Value.category, List.take, List.drop, List.reverse, List.reverseAux, List.map, List.sum_cons, List.sum_nil, List.cons_append, List.nil_append, Option.toList, List.mem_cons, List.not_mem_nil, List.length_cons, List.length_nil, reduceIte, Nat.reduceEqDiff, Nat.reduceAdd, Nat.reduceLeDiff, Nat.reduceLT, a_day, Nat.zero_ne_one, Nat.one_ne_zero, false_and, and_false, true_and, and_true, or_false, false_or, or_true, true_or, not_true_eq_false, not_false_eq_true, Nat.zero_add, Nat.add_zero, Nat.le_refl, Nat.lt_irrefl, Nat.zero_lt_succ, Nat.zero_le, forall_const, List.cons.injEq, Value.int.injEq, Value.ref.injEq, Value.long.injEq, and_assoc, exists_and_left, exists_eq_left', forall_eq]
      rw [e24, nI_1]
      refine ⟨m_76 hg, m_76 hg, fin _ (hs.set _ (Or.inl ⟨rfl, by omega⟩)) (funext fun j => ms_q (by decide)) (funext fun j => ms_q (by decide)) (by rw [ms_j (by decide)]) (by rw [ms_j (by decide)]) ?_⟩
      rw [ms_s]
      simp only [opn, if_pos hx]
    refine ⟨m_76 hg, m_76 hg, m_76 hg, m_88 hg, vm l_88 (by omega) (by decide), fun y => ?_, fun y => ⟨fun u => ?_, fun u => ?_⟩⟩
    · subst hB36; exact go36 (Or.inl y)
    · subst hB36; exact go36 (Or.inr (Or.inl u))
    · subst hB33
      unfold BX6_push_33
      generalize hB36 : BX6_push_36 g Q (T_X6_rank g) = B36
      simp only [T_X6_rank, i_const, i_lconst, i_iload, i_aload, i_lload, i_istore, i_astore, i_lstore, i_iinc, i_bin, i_div, i_un, i_i2l, i_l2i, i_lbin, i_lcmp, i_if, i_icmp, i_dup, i_dup_x1, i_dup2, i_pop, i_geti, i_getr, i_getd, i_puti, i_putz, i_putd, i_iald, i_bald, i_aald, i_iast, i_bast, i_alen, i_keep, i_ret, i_retz, i_reta, i_retl, i_retv, i_callv, i_callk, i_calls, i_mm, i_copy, i_under, i_undld, i_ldcs, i_sw, q_swc0, q_swc1, q_lg0, q_lg1, q_lent0, q_lent1, lset, lset2, q_lins0, q_lins1, q_ldel0, q_ldel1, q_ldel20, q_ldel21, q_lkeep0, q_lkeep1, q_memb0, q_memb1, cat2, Nat.reduceBEq, decide_true, decide_false, decide_eq_true_eq, cond_true, cond_false, Bool.and_true, Bool.and_false, Bool.true_and, Bool.false_and, f_iadd, f_isub, f_imul, f_ishl, f_ishr, f_iushr, f_iand, f_ior, f_idiv, f_irem, f_ineg, f_i2b, f_i2s, f_ladd, f_lmul, c_eq, c_ne, c_lt, c_ge, c_gt, c_le, cc_eq, cc_ne, cc_lt, cc_ge, cc_gt, cc_le, rfo, aof, csum, Value.category, List.take, List.drop, List.reverse, List.reverseAux, List.map, List.sum_cons, List.sum_nil, List.cons_append, List.nil_append, Option.toList, List.mem_cons, List.not_mem_nil, List.length_cons, List.length_nil, reduceIte, Nat.reduceEqDiff, Nat.reduceAdd, Nat.reduceLeDiff, Nat.reduceLT, a_day, Nat.zero_ne_one, Nat.one_ne_zero, false_and, and_false, true_and, and_true, or_false, false_or, or_true, true_or, not_true_eq_false, not_false_eq_true, Nat.zero_add, Nat.add_zero, Nat.le_refl, Nat.lt_irrefl, Nat.zero_lt_succ, Nat.zero_le, forall_const, List.cons.injEq, Value.int.injEq, Value.ref.injEq, Value.long.injEq, and_assoc, exists_and_left, exists_eq_left']
      try simp only [forall_eq]
      refine ⟨fun z => fin M2 hs rfl rfl rfl rfl ?_, fun z => ?_⟩
      · have : ¬ rnk x = 0 := fun q => z (by rw [q]; rfl)
        rw [e24]
        simp only [opn, y, u, this, or_self, if_false, Nat.add_zero]
      · have z : rnk x = 0 := (nI_eq (a := rnk x) (b := 0) (by have := rnk_7 x; omega) (by decide)).mp (Decidable.not_not.mp z)
        subst hB36; exact go36 (Or.inr (Or.inr z))
def T_X6_signed (g : WG) (as : List Value) (M : MM) (Q : Option Value → MM → Prop) : Prop := ∃ s v cm, as = [.ref 76] ∧ TKm M s v ∧ M 76 25 = b2i (cm = true) ∧ Q (some (.int (sgn s cm))) M
set_option maxRecDepth 100000 in
set_option maxHeartbeats 2000000 in
theorem t_X6_signed {l : Launch} {g : WG} (hg : Full g) : Ct l g yX6_signed cX6_signed 1 ((Option.some FieldType.int)) 1 (T_X6_signed g) := by
  refine Ct.of (by decide) (fun as M Q h => ?_) (fun p e s m args below meth c as M Q h C => ?_)
  · obtain ⟨s0, v, cm, rfl, hT, h25, h⟩ := h; exact ⟨by simp, by simp [Value.category]⟩
  · obtain ⟨s0, v, cm, rfl, hT, h25, h⟩ := h
    refine s_of (fun lv st M0 hs => ?_) (WX6_signed_0 C)
    obtain ⟨rfl, rfl, rfl⟩ := hs
    unfold BX6_signed_0
    simp only [i_const, i_lconst, i_iload, i_aload, i_lload, i_istore, i_astore, i_lstore, i_iinc, i_bin, i_div, i_un, i_i2l, i_l2i, i_lbin, i_lcmp, i_if, i_icmp, i_dup, i_dup_x1, i_dup2, i_pop, i_geti, i_getr, i_getd, i_puti, i_putz, i_putd, i_iald, i_bald, i_aald, i_iast, i_bast, i_alen, i_keep, i_ret, i_retz, i_reta, i_retl, i_retv, i_callv, i_callk, i_calls, i_mm, i_copy, i_under, i_undld, i_ldcs, i_sw, q_swc0, q_swc1, q_lg0, q_lg1, q_lent0, q_lent1, lset, lset2, q_lins0, q_lins1, q_ldel0, q_ldel1, q_ldel20, q_ldel21, q_lkeep0, q_lkeep1, q_memb0, q_memb1, cat2, Nat.reduceBEq, decide_true, decide_false, decide_eq_true_eq, cond_true, cond_false, Bool.and_true, Bool.and_false, Bool.true_and, Bool.false_and, f_iadd, f_isub, f_imul, f_ishl, f_ishr, f_iushr, f_iand, f_ior, f_idiv, f_irem, f_ineg, f_i2b, f_i2s, f_ladd, f_lmul, c_eq, c_ne, c_lt, c_ge, c_gt, c_le, cc_eq, cc_ne, cc_lt, cc_ge, cc_gt, cc_le, rfo, aof, csum, Value.category, List.take, List.drop, List.reverse, List.reverseAux, List.map, List.sum_cons, List.sum_nil, List.cons_append, List.nil_append, Option.toList, List.mem_cons, List.not_mem_nil, List.length_cons, List.length_nil, reduceIte, Nat.reduceEqDiff, Nat.reduceAdd, Nat.reduceLeDiff, Nat.reduceLT, a_day, Nat.zero_ne_one, Nat.one_ne_zero, false_and, and_false, true_and, and_true, or_false, false_or, or_true, true_or, not_true_eq_false, not_false_eq_true, Nat.zero_add, Nat.add_zero, Nat.le_refl, Nat.lt_irrefl, Nat.zero_lt_succ, Nat.zero_le, forall_const, List.cons.injEq, Value.int.injEq, Value.ref.injEq, Value.long.injEq, and_assoc, exists_and_left, exists_eq_left']
    try simp only [forall_eq]
    have hk := hT.knd
    have hw : M0 76 19 = 119 → (M0 76 21 = 1111 ↔ s0 = 8) ∧ (M0 76 21 = 423 ↔ s0 = 7) := fun q => ⟨hT.word q (w := 10) (by decide) (by decide), hT.word q (w := 9) (by decide) (by decide)⟩
    have k119 : s0 = 8 ∨ s0 = 7 → M0 76 19 = 119 := fun q => by rw [hk]; rcases q with rfl | rfl <;> rfl
    have n3 : s0 = 42 ∨ s0 = 43 ∨ s0 = 45 ∨ s0 = 60 ∨ s0 = 61 ∨ True := by simp
    unfold sgn at h
    rw [hT.sign (x := 42) (by simp), hT.sign (x := 43) (by simp), hT.sign (x := 45) (by simp), hT.sign (x := 60) (by simp), hT.sign (x := 61) (by simp), h25]
    refine ⟨m_76 hg, fun e => ?_, fun e1 => ⟨fun e => ?_, fun e2 => ⟨fun e => ?_, fun e3 => ⟨fun e => ⟨m_76 hg, fun z => ?_, fun z => ?_⟩, fun e4 => ⟨fun e => ⟨m_76 hg, fun z => ?_, fun z => ?_⟩, fun e5 => ⟨fun e => ⟨m_76 hg, fun z => ⟨m_76 hg, fun y => ?_, fun y => ?_⟩, fun z => ?_⟩, fun e => ?_⟩⟩⟩⟩⟩⟩
    · rw [if_pos e] at h; exact h
    · rw [if_neg e1, if_pos e] at h; exact h
    · rw [if_neg e1, if_neg e2, if_pos e] at h; exact h
    · rw [if_neg e1, if_neg e2, if_neg e3, if_pos e, if_neg (b2n z)] at h; exact h
    · rw [if_neg e1, if_neg e2, if_neg e3, if_pos e, if_pos (b2t z)] at h; exact h
    · rw [if_neg e1, if_neg e2, if_neg e3, if_neg e4, if_pos e, if_neg (b2n z)] at h; exact h
    · rw [if_neg e1, if_neg e2, if_neg e3, if_neg e4, if_pos e, if_pos (b2t z)] at h; exact h
    · rw [if_neg e1, if_neg e2, if_neg e3, if_neg e4, if_neg e5, if_neg (fun q => z ((hw e).1.mpr q)), if_neg (fun q => y ((hw e).2.mpr q))] at h; exact h
    · rw [if_neg e1, if_neg e2, if_neg e3, if_neg e4, if_neg e5, if_neg (fun q => z ((hw e).1.mpr q)), if_pos ((hw e).2.mp (Decidable.not_not.mp y))] at h; exact h
    · rw [if_neg e1, if_neg e2, if_neg e3, if_neg e4, if_neg e5, if_pos ((hw e).1.mp (Decidable.not_not.mp z))] at h; exact h
    · rw [if_neg e1, if_neg e2, if_neg e3, if_neg e4, if_neg e5, if_neg (fun q => e (k119 (Or.inl q))), if_neg (fun q => e (k119 (Or.inr q)))] at h; exact h
def T_X6_closes (g : WG) (as : List Value) (M : MM) (Q : Option Value → MM → Prop) : Prop := ∃ c0 o W, as = [.ref 76] ∧ MWp M c0 o W ∧ ((lay 1 o W).2 = [] → ∀ M', Sm (YMb c0) M M' → Q (some (.int 0)) M') ∧ (∀ b W1, (lay 1 o W).2 = b :: W1 → ∀ M', Sm (YMb c0) M M' → MWp M' c0 (lay 7 (lay 1 o W).1 W1).1 (lay 7 (lay 1 o W).1 W1).2 → M' 76 25 = b2i (b = -2) → M' 76 26 = M 76 26 → M' 76 27 = M 76 27 → Q (some (.int 1)) M')
set_option maxRecDepth 100000 in
set_option maxHeartbeats 1000000 in
theorem t_X6_closes {l : Launch} {g : WG} (hg : Full g) : Ct l g yX6_closes cX6_closes 1 ((Option.some FieldType.boolean)) 3 (T_X6_closes g) := by
  refine Ct.of (by decide) (fun as M Q h => ?_) (fun p e s m args below meth c as M Q h C => ?_)
  · obtain ⟨c0, o, W, rfl, hM, h1, h2⟩ := h; exact ⟨by simp, by simp [Value.category]⟩
  · obtain ⟨c0, o, W, rfl, hM, h1, h2⟩ := h
    refine s_of (fun lv st M0 hs => ?_) (WX6_closes_0 C (t_X6_lays hg) (by decide))
    obtain ⟨rfl, rfl, rfl⟩ := hs
    unfold BX6_closes_0
    generalize hB5 : BX6_closes_5 g Q (T_X6_lays g) = B5
    simp only [T_X6_lays, i_const, i_lconst, i_iload, i_aload, i_lload, i_istore, i_astore, i_lstore, i_iinc, i_bin, i_div, i_un, i_i2l, i_l2i, i_lbin, i_lcmp, i_if, i_icmp, i_dup, i_dup_x1, i_dup2, i_pop, i_geti, i_getr, i_getd, i_puti, i_putz, i_putd, i_iald, i_bald, i_aald, i_iast, i_bast, i_alen, i_keep, i_ret, i_retz, i_reta, i_retl, i_retv, i_callv, i_callk, i_calls, i_mm, i_copy, i_under, i_undld, i_ldcs, i_sw, q_swc0, q_swc1, q_lg0, q_lg1, q_lent0, q_lent1, lset, lset2, q_lins0, q_lins1, q_ldel0, q_ldel1, q_ldel20, q_ldel21, q_lkeep0, q_lkeep1, q_memb0, q_memb1, cat2, Nat.reduceBEq, decide_true, decide_false, decide_eq_true_eq, cond_true, cond_false, Bool.and_true, Bool.and_false, Bool.true_and, Bool.false_and, f_iadd, f_isub, f_imul, f_ishl, f_ishr, f_iushr, f_iand, f_ior, f_idiv, f_irem, f_ineg, f_i2b, f_i2s, f_ladd, f_lmul, c_eq, c_ne, c_lt, c_ge, c_gt, c_le, cc_eq, cc_ne, cc_lt, cc_ge, cc_gt, cc_le, rfo, aof, csum, Value.category, List.take, List.drop, List.reverse, List.reverseAux, List.map, List.sum_cons, List.sum_nil, List.cons_append, List.nil_append, Option.toList, List.mem_cons, List.not_mem_nil, List.length_cons, List.length_nil, reduceIte, Nat.reduceEqDiff, Nat.reduceAdd, Nat.reduceLeDiff, Nat.reduceLT, a_day, Nat.zero_ne_one, Nat.one_ne_zero, false_and, and_false, true_and, and_true, or_false, false_or, or_true, true_or, not_true_eq_false, not_false_eq_true, Nat.zero_add, Nat.add_zero, Nat.le_refl, Nat.lt_irrefl, Nat.zero_lt_succ, Nat.zero_le, forall_const, List.cons.injEq, Value.int.injEq, Value.ref.injEq, Value.long.injEq, and_assoc, exists_and_left, exists_eq_left']
    try simp only [forall_eq]
    refine ⟨(m_76 hg).1, (m_76 hg).2.1, 1, rfl, by decide, by decide, c0, o, W, hM, fun M1 hs hM1 => ?_⟩
    subst hB5
    unfold BX6_closes_5
    generalize hB44 : BX6_closes_44 g Q (T_X6_lays g) = B44
    simp only [T_X6_lays, i_const, i_lconst, i_iload, i_aload, i_lload, i_istore, i_astore, i_lstore, i_iinc, i_bin, i_div, i_un, i_i2l, i_l2i, i_lbin, i_lcmp, i_if, i_icmp, i_dup, i_dup_x1, i_dup2, i_pop, i_geti, i_getr, i_getd, i_puti, i_putz, i_putd, i_iald, i_bald, i_aald, i_iast, i_bast, i_alen, i_keep, i_ret, i_retz, i_reta, i_retl, i_retv, i_callv, i_callk, i_calls, i_mm, i_copy, i_under, i_undld, i_ldcs, i_sw, q_swc0, q_swc1, q_lg0, q_lg1, q_lent0, q_lent1, lset, lset2, q_lins0, q_lins1, q_ldel0, q_ldel1, q_ldel20, q_ldel21, q_lkeep0, q_lkeep1, q_memb0, q_memb1, cat2, Nat.reduceBEq, decide_true, decide_false, decide_eq_true_eq, cond_true, cond_false, Bool.and_true, Bool.and_false, Bool.true_and, Bool.false_and, f_iadd, f_isub, f_imul, f_ishl, f_ishr, f_iushr, f_iand, f_ior, f_idiv, f_irem, f_ineg, f_i2b, f_i2s, f_ladd, f_lmul, c_eq, c_ne, c_lt, c_ge, c_gt, c_le, cc_eq, cc_ne, cc_lt, cc_ge, cc_gt, cc_le, rfo, aof, csum, Value.category, List.take, List.drop, List.reverse, List.reverseAux, List.map, List.sum_cons, List.sum_nil, List.cons_append, List.nil_append, Option.toList, List.mem_cons, List.not_mem_nil, List.length_cons, List.length_nil, reduceIte, Nat.reduceEqDiff, Nat.reduceAdd, Nat.reduceLeDiff, Nat.reduceLT, a_day, Nat.zero_ne_one, Nat.one_ne_zero, false_and, and_false, true_and, and_true, or_false, false_or, or_true, true_or, not_true_eq_false, not_false_eq_true, Nat.zero_add, Nat.add_zero, Nat.le_refl, Nat.lt_irrefl, Nat.zero_lt_succ, Nat.zero_le, forall_const, List.cons.injEq, Value.int.injEq, Value.ref.injEq, Value.long.injEq, and_assoc, exists_and_left, exists_eq_left']
    try simp only [forall_eq]
    obtain ⟨a1, a2, a3, a4, a5, a6, a7⟩ := hM1
    obtain ⟨W', hW'⟩ : ∃ W', (lay 1 o W).2 = W' := ⟨_, rfl⟩
    obtain ⟨o1, ho1⟩ : ∃ o1, (lay 1 o W).1 = o1 := ⟨_, rfl⟩
    rw [hW'] at a1 a2 a3 a6
    rw [ho1] at a4 a5 a6
    rw [hW'] at h1 h2
    rw [ho1] at h2
    have hst : tpr W' < 1 := by rw [← hW']; exact lay_tpr _ _ _ (by decide)
    cases W' with
    | nil =>
      rw [a1]
      exact ⟨m_76 hg, fun z => absurd rfl z, fun _ => h1 rfl M1 (hs.mono fun _ _ q => Or.inl q)⟩
    | cons b W1 =>
      have h2 := h2 b W1 rfl
      have hl : W1.length < 160 := by simp at a6; omega
      have ew : M1 88 W1.length = b := a2.1
      have a1' : M1 76 23 = nI (W1.length + 1) := a1
      have q88 : mset M1 76 23 (nI W1.length) 88 = M1 88 := funext fun j => ms_q (by decide)
      rw [a1', nI_pred, ms_s, nI_clamp (by omega), q88, ew]
      have hs2 : Sm (YMa c0) M0 (mset M1 76 23 (nI W1.length)) := hs.set _ (Or.inl ⟨rfl, by omega⟩)
      have f23 : mset M1 76 23 (nI W1.length) 76 23 = nI W1.length := ms_s _ _ _ _
      have f87 : mset M1 76 23 (nI W1.length) 87 = M1 87 := funext fun j => ms_q (by decide)
      have f16 : mset M1 76 23 (nI W1.length) 76 16 = nI (c0 + o1.length) := by rw [ms_j (by decide)]; exact a4
      have f24 : mset M1 76 23 (nI W1.length) 76 24 = nI (opn (b :: W1)) := by rw [ms_j (by decide)]; exact a3
      obtain ⟨M2, hM2⟩ : ∃ M2, mset M1 76 23 (nI W1.length) = M2 := ⟨_, rfl⟩
      rw [hM2] at hs2 f23 f87 f16 f24 q88 ⊢
      have hob : opn (b :: W1) = opn W1 + 1 := by
        have : rnk b = 0 := Nat.lt_one_iff.mp hst
        simp only [opn, this, or_true, if_true]
      have go44 : BX6_closes_44 g Q (T_X6_lays g) [(0, .ref 76)] [.int (b2i (b = -2)), .ref 76] M2 := by
        unfold BX6_closes_44
        simp only [T_X6_lays, i_const, i_lconst, i_iload, i_aload, i_lload, i_istore, i_astore, i_lstore, i_iinc, i_bin, i_div, i_un, i_i2l, i_l2i, i_lbin, i_lcmp, i_if, i_icmp, i_dup, i_dup_x1, i_dup2, i_pop, i_geti, i_getr, i_getd, i_puti, i_putz, i_putd, i_iald, i_bald, i_aald, i_iast, i_bast, i_alen, i_keep, i_ret, i_retz, i_reta, i_retl, i_retv, i_callv, i_callk, i_calls, i_mm, i_copy, i_under, i_undld, i_ldcs, i_sw, q_swc0, q_swc1, q_lg0, q_lg1, q_lent0, q_lent1, lset, lset2, q_lins0, q_lins1, q_ldel0, q_ldel1, q_ldel20, q_ldel21, q_lkeep0, q_lkeep1, q_memb0, q_memb1, cat2, Nat.reduceBEq, decide_true, decide_false, decide_eq_true_eq, cond_true, cond_false, Bool.and_true, Bool.and_false, Bool.true_and, Bool.false_and, f_iadd, f_isub, f_imul, f_ishl, f_ishr, f_iushr, f_iand, f_ior, f_idiv, f_irem, f_ineg, f_i2b, f_i2s, f_ladd, f_lmul, c_eq, c_ne, c_lt, c_ge, c_gt, c_le, cc_eq, cc_ne, cc_lt, cc_ge, cc_gt, cc_le, rfo, aof, csum, Value.category, List.take, List.drop, List.reverse, List.reverseAux, List.map, List.sum_cons, List.sum_nil, List.cons_append, List.nil_append, Option.toList, List.mem_cons, List.not_mem_nil, List.length_cons, List.length_nil, reduceIte, Nat.reduceEqDiff, Nat.reduceAdd, Nat.reduceLeDiff, Nat.reduceLT, a_day, Nat.zero_ne_one, Nat.one_ne_zero, false_and, and_false, true_and, and_true, or_false, false_or, or_true, true_or, not_true_eq_false, not_false_eq_true, Nat.zero_add, Nat.add_zero, Nat.le_refl, Nat.lt_irrefl, Nat.zero_lt_succ, Nat.zero_le, forall_const, List.cons.injEq, Value.int.injEq, Value.ref.injEq, Value.long.injEq, and_assoc, exists_and_left, exists_eq_left', forall_eq]
        rw [show mset M2 76 25 (b2i (b = -2)) 76 24 = nI (opn W1 + 1) by rw [ms_j (by decide), f24, hob], nI_pred]
        have hs3 : Sm (YMb c0) M0 (mset (mset M2 76 25 (b2i (b = -2))) 76 24 (nI (opn W1))) := ((hs2.mono fun _ _ q => Or.inl q).set _ (Or.inr ⟨rfl, by omega⟩)).set _ (Or.inl (Or.inl ⟨rfl, by omega⟩))
        refine ⟨m_76 hg, b2i_z _, m_76 hg, m_76 hg, (m_76 hg).1, (m_76 hg).2.1, 7, rfl, by decide, by decide, c0, o1, W1, ⟨?_, ?_, ms_s _ _ _ _, ?_, fun t y ht => ?_, by simp at a6; omega, a7⟩, fun M3 hs4 hM3 => h2 M3 (hs3.tr (hs4.mono fun _ _ q => Or.inl q)) hM3 ?_ ?_ ?_⟩
        · rw [ms_j (by decide), ms_j (by decide)]; exact f23
        · refine PS_upd (fun j _ => ?_) a2.2
          rw [ms_q (by decide), ms_q (by decide), q88]
        · rw [ms_j (by decide), ms_j (by decide)]; exact f16
        · rw [ms_q (by decide), ms_q (by decide), f87]; exact a5 t y ht
        · rw [hs4 76 25 (by unfold YMa; omega), ms_j (by decide), ms_s]
        · rw [hs4 76 26 (by unfold YMa; omega), ms_j (by decide), ms_j (by decide)]; exact hs2 _ _ (by unfold YMa; omega)
        · rw [hs4 76 27 (by unfold YMa; omega), ms_j (by decide), ms_j (by decide)]; exact hs2 _ _ (by unfold YMa; omega)
      refine ⟨m_76 hg, fun _ => ⟨m_76 hg, m_76 hg, m_76 hg, m_76 hg, m_88 hg, vm l_88 (by omega) (by decide), fun y => ?_, fun y => ?_⟩, fun z => absurd (Decidable.not_not.mp z) (nI_ne0 (by omega) (by omega))⟩
      · rw [b2i_f y] at go44; subst hB44; exact go44
      · rw [b2i_t (Decidable.not_not.mp y)] at go44; subst hB44; exact go44
    
