/-! ===== a text's value ===== -/
def seg (f : Nat → Int32) : Nat → Nat → List Int32
  | _, 0 => []
  | i, n + 1 => f i :: seg f (i + 1) n
def isT (r : Nat) : Prop := ∃ t, t < 6 ∧ r = 8 + 4 * t
theorem text_ok {g : WG} {r : Nat} (hr : Reg g 3 32) (h : isT r) : okq g 4 r ∧ okq g 7 (r + 1) ∧ okq g 7 (r + 2) ∧ okq g 7 (r + 3) ∧ (ln (r + 1) = 160 ∧ ln (r + 2) = 3 ∧ ln (r + 3) = 160) ∧ r ∈ gids g ∧ kd r = 4 := by
  obtain ⟨t, ht, rfl⟩ := h
  have key : ∀ t, t < 6 → kd (8 + 4 * t) = 4 ∧ kd (8 + 4 * t + 1) = 7 ∧ kd (8 + 4 * t + 2) = 7 ∧ kd (8 + 4 * t + 3) = 7 ∧ ln (8 + 4 * t + 1) = 160 ∧ ln (8 + 4 * t + 2) = 3 ∧ ln (8 + 4 * t + 3) = 160 := by decide
  obtain ⟨k1, k2, k3, k4, k5, k6, k7⟩ := key t ht
  exact ⟨okR hr (by omega) (by omega) k1, okR hr (by omega) (by omega) k2, okR hr (by omega) (by omega) k3, okR hr (by omega) (by omega) k4, ⟨k5, k6, k7⟩, (hr _ (by omega) (by omega)).1, k1⟩
/-- where a part begins, where it ends -/
def xb (M : MM) (r p : Nat) : Nat := if p = 0 then 0 else (M (r + 2) (p - 1)).toNatClampNeg
def xe (M : MM) (r p : Nat) : Nat := (M (r + 2) p).toNatClampNeg
def xc (M : MM) : XV := fun r p => seg (M (r + 1)) (xb M r p) (xe M r p - xb M r p)
def txOK (M : MM) (r : Nat) : Prop := (∀ p, p < 3 → M (r + 2) p = nI (xe M r p) ∧ xb M r p ≤ xe M r p ∧ xe M r p ≤ 160 ∧ wfX (xc M r p))
/-- a pile, the top ahead, in a row -/
def PS (f : Nat → Int32) : List Int32 → Prop
  | [] => True
  | a :: r => f r.length = a ∧ PS f r
theorem PS_upd {f f' : Nat → Int32} : ∀ {k : List Int32}, (∀ j, j < k.length → f' j = f j) → PS f k → PS f' k
  | [], _, _ => trivial
  | a :: r, h, hp => ⟨(h r.length (by simp)).trans hp.1, PS_upd (fun j hj => h j (by simp; omega)) hp.2⟩
theorem dst_len {fc : Nat → Int32} {c : Int32} {k : List Int32} {m : Nat} (h : dst c k.length = some m) : (vst fc c k).length = m := by
  unfold dst at h; unfold vst
  split at h
  · simp at h; simp [*]
  · split at h
    · simp at h; simp [*]
    · next h1 h2 =>
      rw [if_neg h1, if_neg h2]
      split at h
      · next h3 =>
        split at h
        · cases k with
          | nil => simp at *
          | cons a r =>
            simp at h
            rcases h3 with rfl | rfl
            · simp [h]
            · simp [h]
        · cases h
      · split at h
        · split at h
          · next h3 _ _ =>
            match k, h with
            | [], h => simp at *
            | [a], h => simp at *
            | a :: b :: r, h =>
              simp at h
              have n1 : ¬ c = -11 := fun e => h3 (Or.inl e)
              have n2 : ¬ c = -12 := fun e => h3 (Or.inr e)
              simp [n1, n2, h]
          · cases h
        · cases h
def T_X4_stepOfFact (g : WG) (as : List Value) (M : MM) (Q : Option Value → MM → Prop) : Prop := ∃ n, as = [.int n] ∧ Q (some (.int (-1 - n))) M
set_option maxRecDepth 100000 in
set_option maxHeartbeats 1000000 in
theorem t_X4_stepOfFact {l : Launch} {g : WG} (hr : Reg g 3 32) : Ct l g yX4_stepOfFact cX4_stepOfFact 1 ((Option.some FieldType.int)) 1 (T_X4_stepOfFact g) := by
  refine Ct.of (by decide) (fun as M Q h => ?_) (fun p e s m args below meth c as M Q h C => ?_)
  · obtain ⟨n, rfl, h⟩ := h; exact ⟨by simp, by simp [Value.category]⟩
  · obtain ⟨n, rfl, h⟩ := h
    refine s_of (fun lv st M0 hs => ?_) (WX4_stepOfFact_0 C)
    obtain ⟨rfl, rfl, rfl⟩ := hs
    unfold BX4_stepOfFact_0
    simp only [i_const, i_lconst, i_iload, i_aload, i_lload, i_istore, i_astore, i_lstore, i_iinc, i_bin, i_div, i_un, i_i2l, i_l2i, i_lbin, i_lcmp, i_if, i_icmp, i_dup, i_dup_x1, i_dup2, i_pop, i_geti, i_getr, i_getd, i_puti, i_putz, i_putd, i_iald, i_bald, i_aald, i_iast, i_bast, i_alen, i_keep, i_ret, i_retz, i_reta, i_retl, i_retv, i_callv, i_callk, i_calls, i_mm, i_copy, i_under, i_undld, i_ldcs, i_sw, q_swc0, q_swc1, q_lg0, q_lg1, q_lent0, q_lent1, lset, lset2, q_lins0, q_lins1, q_ldel0, q_ldel1, q_ldel20, q_ldel21, q_lkeep0, q_lkeep1, q_memb0, q_memb1, cat2, Nat.reduceBEq, decide_true, decide_false, decide_eq_true_eq, cond_true, cond_false, Bool.and_true, Bool.and_false, Bool.true_and, Bool.false_and, f_iadd, f_isub, f_imul, f_ishl, f_ishr, f_iushr, f_iand, f_ior, f_idiv, f_irem, f_ineg, f_i2b, f_i2s, f_ladd, f_lmul, c_eq, c_ne, c_lt, c_ge, c_gt, c_le, cc_eq, cc_ne, cc_lt, cc_ge, cc_gt, cc_le, rfo, aof, csum, Value.category, List.take, List.drop, List.reverse, List.reverseAux, List.map, List.sum_cons, List.sum_nil, List.cons_append, List.nil_append, Option.toList, List.mem_cons, List.not_mem_nil, List.length_cons, List.length_nil, reduceIte, Nat.reduceEqDiff, Nat.reduceAdd, Nat.reduceLeDiff, Nat.reduceLT, a_day, Nat.zero_ne_one, Nat.one_ne_zero, false_and, and_false, true_and, and_true, or_false, false_or, or_true, true_or, not_true_eq_false, not_false_eq_true, Nat.zero_add, Nat.add_zero, Nat.le_refl, Nat.lt_irrefl, Nat.zero_lt_succ, Nat.zero_le, forall_const, List.cons.injEq, Value.int.injEq, Value.ref.injEq, Value.long.injEq, and_assoc, exists_and_left, exists_eq_left']
    try simp only [forall_eq]
    exact h
def T_X4_truth (g : WG) (as : List Value) (M : MM) (Q : Option Value → MM → Prop) : Prop := ∃ n, as = [.int n] ∧ Q (some (.int (b2i (¬ n = 0)))) M
set_option maxRecDepth 100000 in
set_option maxHeartbeats 1000000 in
theorem t_X4_truth {l : Launch} {g : WG} (hr : Reg g 3 32) : Ct l g yX4_truth cX4_truth 1 ((Option.some FieldType.int)) 1 (T_X4_truth g) := by
  refine Ct.of (by decide) (fun as M Q h => ?_) (fun p e s m args below meth c as M Q h C => ?_)
  · obtain ⟨n, rfl, h⟩ := h; exact ⟨by simp, by simp [Value.category]⟩
  · obtain ⟨n, rfl, h⟩ := h
    refine s_of (fun lv st M0 hs => ?_) (WX4_truth_0 C)
    obtain ⟨rfl, rfl, rfl⟩ := hs
    unfold BX4_truth_0
    simp only [i_const, i_lconst, i_iload, i_aload, i_lload, i_istore, i_astore, i_lstore, i_iinc, i_bin, i_div, i_un, i_i2l, i_l2i, i_lbin, i_lcmp, i_if, i_icmp, i_dup, i_dup_x1, i_dup2, i_pop, i_geti, i_getr, i_getd, i_puti, i_putz, i_putd, i_iald, i_bald, i_aald, i_iast, i_bast, i_alen, i_keep, i_ret, i_retz, i_reta, i_retl, i_retv, i_callv, i_callk, i_calls, i_mm, i_copy, i_under, i_undld, i_ldcs, i_sw, q_swc0, q_swc1, q_lg0, q_lg1, q_lent0, q_lent1, lset, lset2, q_lins0, q_lins1, q_ldel0, q_ldel1, q_ldel20, q_ldel21, q_lkeep0, q_lkeep1, q_memb0, q_memb1, cat2, Nat.reduceBEq, decide_true, decide_false, decide_eq_true_eq, cond_true, cond_false, Bool.and_true, Bool.and_false, Bool.true_and, Bool.false_and, f_iadd, f_isub, f_imul, f_ishl, f_ishr, f_iushr, f_iand, f_ior, f_idiv, f_irem, f_ineg, f_i2b, f_i2s, f_ladd, f_lmul, c_eq, c_ne, c_lt, c_ge, c_gt, c_le, cc_eq, cc_ne, cc_lt, cc_ge, cc_gt, cc_le, rfo, aof, csum, Value.category, List.take, List.drop, List.reverse, List.reverseAux, List.map, List.sum_cons, List.sum_nil, List.cons_append, List.nil_append, Option.toList, List.mem_cons, List.not_mem_nil, List.length_cons, List.length_nil, reduceIte, Nat.reduceEqDiff, Nat.reduceAdd, Nat.reduceLeDiff, Nat.reduceLT, a_day, Nat.zero_ne_one, Nat.one_ne_zero, false_and, and_false, true_and, and_true, or_false, false_or, or_true, true_or, not_true_eq_false, not_false_eq_true, Nat.zero_add, Nat.add_zero, Nat.le_refl, Nat.lt_irrefl, Nat.zero_lt_succ, Nat.zero_le, forall_const, List.cons.injEq, Value.int.injEq, Value.ref.injEq, Value.long.injEq, and_assoc, exists_and_left, exists_eq_left']
    try simp only [forall_eq]
    refine ⟨fun z => ?_, fun z => ?_⟩
    · rwa [b2i_f (fun y => y z)] at h
    · rwa [b2i_t z] at h
def T_X4_joined (g : WG) (as : List Value) (M : MM) (Q : Option Value → MM → Prop) : Prop := ∃ c a b, as = [.int c, .int a, .int b] ∧ Q (some (.int (joi c a b))) M
set_option maxRecDepth 100000 in
set_option maxHeartbeats 1000000 in
theorem t_X4_joined {l : Launch} {g : WG} (hr : Reg g 3 32) : Ct l g yX4_joined cX4_joined 3 ((Option.some FieldType.int)) 2 (T_X4_joined g) := by
  refine Ct.of (by decide) (fun as M Q h => ?_) (fun p e s m args below meth c as M Q h C => ?_)
  · obtain ⟨c, a, b, rfl, h⟩ := h; exact ⟨by simp, by simp [Value.category]⟩
  · obtain ⟨c, a, b, rfl, h⟩ := h
    refine s_of (fun lv st M0 hs => ?_) (WX4_joined_0 C (t_X4_truth hr) (by decide))
    obtain ⟨rfl, rfl, rfl⟩ := hs
    unfold BX4_joined_0
    simp only [T_X4_truth, i_const, i_lconst, i_iload, i_aload, i_lload, i_istore, i_astore, i_lstore, i_iinc, i_bin, i_div, i_un, i_i2l, i_l2i, i_lbin, i_lcmp, i_if, i_icmp, i_dup, i_dup_x1, i_dup2, i_pop, i_geti, i_getr, i_getd, i_puti, i_putz, i_putd, i_iald, i_bald, i_aald, i_iast, i_bast, i_alen, i_keep, i_ret, i_retz, i_reta, i_retl, i_retv, i_callv, i_callk, i_calls, i_mm, i_copy, i_under, i_undld, i_ldcs, i_sw, q_swc0, q_swc1, q_lg0, q_lg1, q_lent0, q_lent1, lset, lset2, q_lins0, q_lins1, q_ldel0, q_ldel1, q_ldel20, q_ldel21, q_lkeep0, q_lkeep1, q_memb0, q_memb1, cat2, Nat.reduceBEq, decide_true, decide_false, decide_eq_true_eq, cond_true, cond_false, Bool.and_true, Bool.and_false, Bool.true_and, Bool.false_and, f_iadd, f_isub, f_imul, f_ishl, f_ishr, f_iushr, f_iand, f_ior, f_idiv, f_irem, f_ineg, f_i2b, f_i2s, f_ladd, f_lmul, c_eq, c_ne, c_lt, c_ge, c_gt, c_le, cc_eq, cc_ne, cc_lt, cc_ge, cc_gt, cc_le, rfo, aof, csum, Value.category, List.take, List.drop, List.reverse, List.reverseAux, List.map, List.sum_cons, List.sum_nil, List.cons_append, List.nil_append, Option.toList, List.mem_cons, List.not_mem_nil, List.length_cons, List.length_nil, reduceIte, Nat.reduceEqDiff, Nat.reduceAdd, Nat.reduceLeDiff, Nat.reduceLT, a_day, Nat.zero_ne_one, Nat.one_ne_zero, false_and, and_false, true_and, and_true, or_false, false_or, or_true, true_or, not_true_eq_false, not_false_eq_true, Nat.zero_add, Nat.add_zero, Nat.le_refl, Nat.lt_irrefl, Nat.zero_lt_succ, Nat.zero_le, forall_const, List.cons.injEq, Value.int.injEq, Value.ref.injEq, Value.long.injEq, and_assoc, exists_and_left, exists_eq_left']
    try simp only [forall_eq]
    have z0 : b2i (¬ (0 : Int32) = 0) = 0 := rfl
    have z1 : b2i (¬ (1 : Int32) = 0) = 1 := rfl
    try simp only [z0, z1]
    refine ⟨fun e => ?_, fun e1 => ⟨fun e => ?_, fun e2 => ⟨fun e => ?_, fun e3 => ⟨fun e => ?_, fun e4 => ⟨fun e => ?_, fun e5 => ⟨fun e => ?_, fun e6 => ?_⟩⟩⟩⟩⟩⟩
    · subst e; exact h
    · subst e; exact h
    · subst e
      refine ⟨fun z => ?_, fun z => ?_⟩
      · have := h; rwa [show joi (-16) a b = b2i (a = b) from rfl, b2i_f z] at this
      · have := h; rwa [show joi (-16) a b = b2i (a = b) from rfl, b2i_t (Decidable.not_not.mp z)] at this
    · subst e
      refine ⟨fun z => ?_, fun z => ?_⟩
      · have := h; rwa [show joi (-15) a b = b2i (a < b) from rfl, b2i_f (i_not_lt.mpr z)] at this
      · have := h; rwa [show joi (-15) a b = b2i (a < b) from rfl, b2i_t (i_not_le.mp z)] at this
    · subst e
      refine ⟨fun z => ?_, fun z => ⟨fun y => ?_, fun y => ?_⟩⟩
      · have := h; rwa [show joi (-14) a b = b2i (¬ a = 0 ∧ ¬ b = 0) from rfl, b2i_f (fun q => q.1 z)] at this
      · have := h; rwa [show joi (-14) a b = b2i (¬ a = 0 ∧ ¬ b = 0) from rfl, b2i_f (fun q => q.2 y)] at this
      · have := h; rwa [show joi (-14) a b = b2i (¬ a = 0 ∧ ¬ b = 0) from rfl, b2i_t ⟨z, y⟩] at this
    · subst e
      refine ⟨fun z => ?_, fun z => ⟨fun y => ?_, fun y => ?_⟩⟩
      · have := h; rwa [show joi (-13) a b = b2i (¬ a = 0 ∨ ¬ b = 0) from rfl, b2i_t (Or.inl z)] at this
      · have := h; rwa [show joi (-13) a b = b2i (¬ a = 0 ∨ ¬ b = 0) from rfl, b2i_f (fun q => q.elim z (fun q => q y))] at this
      · have := h; rwa [show joi (-13) a b = b2i (¬ a = 0 ∨ ¬ b = 0) from rfl, b2i_t (Or.inr y)] at this
    · simp only [joi, if_neg e1, if_neg e2, if_neg e3, if_neg e4, if_neg e5, if_neg e6] at h; exact h
theorem seg_get {f : Nat → Int32} : ∀ {n i : Nat}, 0 < n → seg f i n = f i :: seg f (i + 1) (n - 1)
  | n + 1, i, _ => rfl
theorem neg1 {c : Int32} (h : c < 0) : (-1 - c).toInt = -1 - c.toInt := by
  rw [i_lt, Int32.toInt_zero] at h
  have hb := c.le_toInt
  have h1 : (-1 : Int32).toInt = -1 := rfl
  rw [Int32.toInt_sub, h1]
  simp only [Int.bmod]
  omega
theorem c160 : (160 : Int32) = nI 160 := rfl
theorem c1 : (1 : Int32) = nI 1 := rfl
theorem c0 : (0 : Int32) = nI 0 := rfl
def T_X4_value (g : WG) (as : List Value) (M : MM) (Q : Option Value → MM → Prop) : Prop := ∃ (r p fa : Nat), as = [.ref r, .int (nI p), .ref fa] ∧ isT r ∧ p < 3 ∧ okq g 7 fa ∧ ln fa = 6 ∧ 32 ≤ fa ∧ txOK M r ∧ ∀ M', Sm (fun a _ => a = r + 3) M M' → Q (some (.int (val (xc M r p) (M fa)))) M'
set_option maxRecDepth 100000 in
set_option maxHeartbeats 1000000 in
theorem t_X4_value {l : Launch} {g : WG} (hr : Reg g 3 32) : Ct l g yX4_value cX4_value 7 ((Option.some FieldType.int)) 3 (T_X4_value g) := by
  refine Ct.of (by decide) (fun as M Q h => ?_) (fun p e s m args below meth c as M Q h C => ?_)
  · obtain ⟨r, p', fa, rfl, hT, hp, hfa, hl6, hf32, hX, h⟩ := h; exact ⟨by simp, by simp [Value.category]⟩
  · obtain ⟨r, p', fa, rfl, hT, hp, hfa, hl6, hf32, hX, h⟩ := h
    obtain ⟨t1, t2, t3, t4, ⟨n1, n2, n3⟩, -⟩ := text_ok hr hT
    have hrr : 8 ≤ r ∧ r + 3 < 32 := by obtain ⟨t, ht, rfl⟩ := hT; omega
    obtain ⟨x1, x2, x3, x4⟩ := hX p' hp
    obtain ⟨b, hb⟩ : ∃ b, xb M r p' = b := ⟨_, rfl⟩
    obtain ⟨e1, he⟩ : ∃ e1, xe M r p' = e1 := ⟨_, rfl⟩
    rw [he] at x1 x3
    rw [hb, he] at x2
    have hxc : xc M r p' = seg (M (r + 1)) b (e1 - b) := by unfold xc; rw [hb, he]
    obtain ⟨I31, hI31⟩ : ∃ I : Nat → PP, I = (fun n lv st M' => ∃ i k, lv = [(0, .ref r), (1, .int (nI p')), (2, .ref fa), (3, .int (nI k.length)), (4, .int (nI i))] ∧ st = [] ∧ b ≤ i ∧ i ≤ e1 ∧ n = e1 - i ∧ Sm (fun a _ => a = r + 3) M M' ∧ k.length ≤ i - b ∧ dls (seg (M (r + 1)) i (e1 - i)) k.length = some 1 ∧ vls (M fa) (seg (M (r + 1)) i (e1 - i)) k = vls (M fa) (xc M r p') [] ∧ PS (M' (r + 3)) k) := ⟨_, rfl⟩
    obtain ⟨E31, hE31⟩ : ∃ E : PP, E = (fun lv st M => ∃ n, I31 n lv st M) := ⟨_, rfl⟩
    have iE31 : ∀ n lv st M, I31 n lv st M → E31 lv st M := fun n lv st M h => by rw [hE31]; exact ⟨n, h⟩
    have L31 : Sj p l e 3 s m args below meth c 7 g (MQ below (cQc g Q) args s 0 0 (gA g)) 31 E31 := by
      rw [hE31]
      refine s_ex (s_loop I31 (fun K31 k31 => WX4_value_31 C (t_X4_stepOfFact hr) (by decide) (t_X4_truth hr) (by decide) (t_X4_joined hr) (by decide) k31) ?_)
      intro n lv st M1 K31 hK31 hI; rw [hI31] at hI; obtain ⟨i, k, rfl, rfl, hbi, hie, rfl, hs, hkl, hd, hv, hps⟩ := hI
      unfold BX4_value_31
      generalize hB56 : BX4_value_56 g Q (T_X4_stepOfFact g) (T_X4_truth g) (T_X4_joined g) K31 = B56
      generalize hB232 : BX4_value_232 g Q (T_X4_stepOfFact g) (T_X4_truth g) (T_X4_joined g) K31 = B232
      simp only [T_X4_stepOfFact, T_X4_truth, T_X4_joined, i_const, i_lconst, i_iload, i_aload, i_lload, i_istore, i_astore, i_lstore, i_iinc, i_bin, i_div, i_un, i_i2l, i_l2i, i_lbin, i_lcmp, i_if, i_icmp, i_dup, i_dup_x1, i_dup2, i_pop, i_geti, i_getr, i_getd, i_puti, i_putz, i_putd, i_iald, i_bald, i_aald, i_iast, i_bast, i_alen, i_keep, i_ret, i_retz, i_reta, i_retl, i_retv, i_callv, i_callk, i_calls, i_mm, i_copy, i_under, i_undld, i_ldcs, i_sw, q_swc0, q_swc1, q_lg0, q_lg1, q_lent0, q_lent1, lset, lset2, q_lins0, q_lins1, q_ldel0, q_ldel1, q_ldel20, q_ldel21, q_lkeep0, q_lkeep1, q_memb0, q_memb1, cat2, Nat.reduceBEq, decide_true, decide_false, decide_eq_true_eq, cond_true, cond_false, Bool.and_true, Bool.and_false, Bool.true_and, Bool.false_and, f_iadd, f_isub, f_imul, f_ishl, f_ishr, f_iushr, f_iand, f_ior, f_idiv, f_irem, f_ineg, f_i2b, f_i2s, f_ladd, f_lmul, c_eq, c_ne, c_lt, c_ge, c_gt, c_le, cc_eq, cc_ne, cc_lt, cc_ge, cc_gt, cc_le, rfo, aof, csum, Value.category, List.take, List.drop, List.reverse, List.reverseAux, List.map, List.sum_cons, List.sum_nil, List.cons_append, List.nil_append, Option.toList, List.mem_cons, List.not_mem_nil, List.length_cons, List.length_nil, reduceIte, Nat.reduceEqDiff, Nat.reduceAdd, Nat.reduceLeDiff, Nat.reduceLT, a_day, Nat.zero_ne_one, Nat.one_ne_zero, false_and, and_false, true_and, and_true, or_false, false_or, or_true, true_or, not_true_eq_false, not_false_eq_true, Nat.zero_add, Nat.add_zero, Nat.le_refl, Nat.lt_irrefl, Nat.zero_lt_succ, Nat.zero_le, forall_const, List.cons.injEq, Value.int.injEq, Value.ref.injEq, Value.long.injEq, and_assoc, exists_and_left, exists_eq_left']
      try simp only [forall_eq]
      have hne1 : ∀ j, M1 (r + 1) j = M (r + 1) j := fun j => hs _ _ (by show ¬ r + 1 = r + 3; omega)
      have hne2 : ∀ j, M1 (r + 2) j = M (r + 2) j := fun j => hs _ _ (by show ¬ r + 2 = r + 3; omega)
      have hnef : ∀ j, M1 fa j = M fa j := fun j => hs _ _ (by show ¬ fa = r + 3; omega)
      simp only [nI_clamp (show p' < 2 ^ 31 by omega), hne1, hne2, x1, nI_clamp (show i < 2 ^ 31 by omega)]
      refine ⟨t1, t3, vp_in_nI (by omega) (by omega), fun z => ?_, fun z => ?_⟩
      · have hie2 : i = e1 := by
          have := (nI_leI (a := e1) (b := i) (by omega) (by omega)).mp z
          omega
        subst hie2
        rw [Nat.sub_self] at hd hv
        simp only [seg, dls, vls, Option.some.injEq] at hd hv
        match k, hd with
        | [a], _ =>
          have hval : val (xc M r p') (M fa) = a := by unfold val; rw [← hv]; rfl
          have e1' : nI [a].length = 1 := rfl
          subst hB232
          unfold BX4_value_232
          simp only [T_X4_stepOfFact, T_X4_truth, T_X4_joined, i_const, i_lconst, i_iload, i_aload, i_lload, i_istore, i_astore, i_lstore, i_iinc, i_bin, i_div, i_un, i_i2l, i_l2i, i_lbin, i_lcmp, i_if, i_icmp, i_dup, i_dup_x1, i_dup2, i_pop, i_geti, i_getr, i_getd, i_puti, i_putz, i_putd, i_iald, i_bald, i_aald, i_iast, i_bast, i_alen, i_keep, i_ret, i_retz, i_reta, i_retl, i_retv, i_callv, i_callk, i_calls, i_mm, i_copy, i_under, i_undld, i_ldcs, i_sw, q_swc0, q_swc1, q_lg0, q_lg1, q_lent0, q_lent1, lset, lset2, q_lins0, q_lins1, q_ldel0, q_ldel1, q_ldel20, q_ldel21, q_lkeep0, q_lkeep1, q_memb0, q_memb1, cat2, Nat.reduceBEq, decide_true, decide_false, decide_eq_true_eq, cond_true, cond_false, Bool.and_true, Bool.and_false, Bool.true_and, Bool.false_and, f_iadd, f_isub, f_imul, f_ishl, f_ishr, f_iushr, f_iand, f_ior, f_idiv, f_irem, f_ineg, f_i2b, f_i2s, f_ladd, f_lmul, c_eq, c_ne, c_lt, c_ge, c_gt, c_le, cc_eq, cc_ne, cc_lt, cc_ge, cc_gt, cc_le, rfo, aof, csum, Value.category, List.take, List.drop, List.reverse, List.reverseAux, List.map, List.sum_cons, List.sum_nil, List.cons_append, List.nil_append, Option.toList, List.mem_cons, List.not_mem_nil, List.length_cons, List.length_nil, reduceIte, Nat.reduceEqDiff, Nat.reduceAdd, Nat.reduceLeDiff, Nat.reduceLT, a_day, Nat.zero_ne_one, Nat.one_ne_zero, false_and, and_false, true_and, and_true, or_false, false_or, or_true, true_or, not_true_eq_false, not_false_eq_true, Nat.zero_add, Nat.add_zero, Nat.le_refl, Nat.lt_irrefl, Nat.zero_lt_succ, Nat.zero_le, forall_const, List.cons.injEq, Value.int.injEq, Value.ref.injEq, Value.long.injEq, and_assoc, exists_and_left, exists_eq_left']
          try simp only [forall_eq]
          refine ⟨fun y => absurd y (by decide), fun _ => ⟨t1, t4, ?_, ?_⟩⟩
          · exact vp_in_nI (n := 0) (by omega) (by omega)
          · have := h M1 hs
            rw [hval] at this
            have e0 : M1 (r + 3) 0 = a := hps.1
            rw [← e0] at this
            exact this
      · have hlt : i < e1 := by
          rcases Nat.lt_or_ge i e1 with q | q
          · exact q
          · exact absurd (nI_le q (by omega)) z
        rw [seg_get (by omega)] at hd hv
        have hsub : e1 - i - 1 = e1 - (i + 1) := by omega
        rw [hsub] at hd hv
        generalize hc : M (r + 1) i = cc at *
        simp only [dls] at hd
        simp only [vls] at hv
        cases hdc : dst cc k.length with
        | none => rw [hdc] at hd; cases hd
        | some m' =>
          rw [hdc] at hd
          have hm := dst_len (fc := M fa) hdc
          have hk160 : ¬ (160 : Int32) ≤ nI k.length := nI_ge (b := 160) (by omega) (by omega)
          have fin : ∀ (k' : List Int32) (M2 : MM) (tp : Int32), k' = vst (M fa) cc k → tp = nI k'.length → Sm (fun a _ => a = r + 3) M M2 → PS (M2 (r + 3)) k' → K31 [(0, .ref r), (1, .int (nI p')), (2, .ref fa), (3, .int tp), (4, .int (nI i + 1))] [] M2 := by
            intro k' M2 tp hk' htp hs2 hp2
            refine hK31 (e1 - (i + 1)) _ _ _ (by omega) ?_
            rw [hI31]
            have hl : k'.length = m' := by rw [hk', hm]
            have hml : m' ≤ k.length + 1 := by
              unfold dst at hdc
              split at hdc
              · cases hdc; omega
              · split at hdc
                · cases hdc; omega
                · split at hdc
                  · split at hdc
                    · cases hdc; omega
                    · cases hdc
                  · split at hdc
                    · split at hdc
                      · cases hdc; omega
                      · cases hdc
                    · cases hdc
            exact ⟨i + 1, k', by rw [htp, nI_1], rfl, by omega, by omega, rfl, hs2, by omega, by rw [hl]; exact hd, by rw [hk']; exact hv, hp2⟩
          have hpush : ∀ (x : Int32), vst (M fa) cc k = x :: k → K31 [(0, .ref r), (1, .int (nI p')), (2, .ref fa), (3, .int (nI k.length + 1)), (4, .int (nI i + 1))] [] (mset M1 (r + 3) (nI k.length).toNatClampNeg x) := by
            intro x hx
            refine fin (x :: k) _ _ hx.symm (by rw [nI_1]; rfl) (hs.set _ rfl) ?_
            rw [nI_clamp (by omega)]
            exact ⟨ms_s _ _ _ _, PS_upd (fun j hj => ms_j (by omega)) hps⟩
          refine ⟨t1, t2, vp_in_nI (by omega) (by omega), ?_⟩
          subst hB56
          unfold BX4_value_56
          generalize hB84 : BX4_value_84 g Q (T_X4_stepOfFact g) (T_X4_truth g) (T_X4_joined g) K31 = B84
          simp only [T_X4_stepOfFact, T_X4_truth, T_X4_joined, i_const, i_lconst, i_iload, i_aload, i_lload, i_istore, i_astore, i_lstore, i_iinc, i_bin, i_div, i_un, i_i2l, i_l2i, i_lbin, i_lcmp, i_if, i_icmp, i_dup, i_dup_x1, i_dup2, i_pop, i_geti, i_getr, i_getd, i_puti, i_putz, i_putd, i_iald, i_bald, i_aald, i_iast, i_bast, i_alen, i_keep, i_ret, i_retz, i_reta, i_retl, i_retv, i_callv, i_callk, i_calls, i_mm, i_copy, i_under, i_undld, i_ldcs, i_sw, q_swc0, q_swc1, q_lg0, q_lg1, q_lent0, q_lent1, lset, lset2, q_lins0, q_lins1, q_ldel0, q_ldel1, q_ldel20, q_ldel21, q_lkeep0, q_lkeep1, q_memb0, q_memb1, cat2, Nat.reduceBEq, decide_true, decide_false, decide_eq_true_eq, cond_true, cond_false, Bool.and_true, Bool.and_false, Bool.true_and, Bool.false_and, f_iadd, f_isub, f_imul, f_ishl, f_ishr, f_iushr, f_iand, f_ior, f_idiv, f_irem, f_ineg, f_i2b, f_i2s, f_ladd, f_lmul, c_eq, c_ne, c_lt, c_ge, c_gt, c_le, cc_eq, cc_ne, cc_lt, cc_ge, cc_gt, cc_le, rfo, aof, csum, Value.category, List.take, List.drop, List.reverse, List.reverseAux, List.map, List.sum_cons, List.sum_nil, List.cons_append, List.nil_append, Option.toList, List.mem_cons, List.not_mem_nil, List.length_cons, List.length_nil, reduceIte, Nat.reduceEqDiff, Nat.reduceAdd, Nat.reduceLeDiff, Nat.reduceLT, a_day, Nat.zero_ne_one, Nat.one_ne_zero, false_and, and_false, true_and, and_true, or_false, false_or, or_true, true_or, not_true_eq_false, not_false_eq_true, Nat.zero_add, Nat.add_zero, Nat.le_refl, Nat.lt_irrefl, Nat.zero_lt_succ, Nat.zero_le, forall_const, List.cons.injEq, Value.int.injEq, Value.ref.injEq, Value.long.injEq, and_assoc, exists_and_left, exists_eq_left']
          try simp only [forall_eq]
          refine ⟨fun y => ?_, fun y => ⟨fun q => absurd q hk160, fun _ => ⟨t1, t4, vp_in_nI (by omega) (by omega), hpush cc (by unfold vst; rw [if_pos (i_not_lt.mp y)])⟩⟩⟩
          have hcn : ¬ 0 ≤ cc := i_not_le.mpr y
          have hnm := neg1 y
          have y2 : cc.toInt < 0 := by rw [i_lt] at y; exact y
          have hnm0 : ¬ (-1 - cc) < 0 := by rw [i_lt, hnm, Int32.toInt_zero]; omega
          subst hB84
          unfold BX4_value_84
          generalize hB119 : BX4_value_119 g Q (T_X4_stepOfFact g) (T_X4_truth g) (T_X4_joined g) K31 = B119
          simp only [T_X4_stepOfFact, T_X4_truth, T_X4_joined, i_const, i_lconst, i_iload, i_aload, i_lload, i_istore, i_astore, i_lstore, i_iinc, i_bin, i_div, i_un, i_i2l, i_l2i, i_lbin, i_lcmp, i_if, i_icmp, i_dup, i_dup_x1, i_dup2, i_pop, i_geti, i_getr, i_getd, i_puti, i_putz, i_putd, i_iald, i_bald, i_aald, i_iast, i_bast, i_alen, i_keep, i_ret, i_retz, i_reta, i_retl, i_retv, i_callv, i_callk, i_calls, i_mm, i_copy, i_under, i_undld, i_ldcs, i_sw, q_swc0, q_swc1, q_lg0, q_lg1, q_lent0, q_lent1, lset, lset2, q_lins0, q_lins1, q_ldel0, q_ldel1, q_ldel20, q_ldel21, q_lkeep0, q_lkeep1, q_memb0, q_memb1, cat2, Nat.reduceBEq, decide_true, decide_false, decide_eq_true_eq, cond_true, cond_false, Bool.and_true, Bool.and_false, Bool.true_and, Bool.false_and, f_iadd, f_isub, f_imul, f_ishl, f_ishr, f_iushr, f_iand, f_ior, f_idiv, f_irem, f_ineg, f_i2b, f_i2s, f_ladd, f_lmul, c_eq, c_ne, c_lt, c_ge, c_gt, c_le, cc_eq, cc_ne, cc_lt, cc_ge, cc_gt, cc_le, rfo, aof, csum, Value.category, List.take, List.drop, List.reverse, List.reverseAux, List.map, List.sum_cons, List.sum_nil, List.cons_append, List.nil_append, Option.toList, List.mem_cons, List.not_mem_nil, List.length_cons, List.length_nil, reduceIte, Nat.reduceEqDiff, Nat.reduceAdd, Nat.reduceLeDiff, Nat.reduceLT, a_day, Nat.zero_ne_one, Nat.one_ne_zero, false_and, and_false, true_and, and_true, or_false, false_or, or_true, true_or, not_true_eq_false, not_false_eq_true, Nat.zero_add, Nat.add_zero, Nat.le_refl, Nat.lt_irrefl, Nat.zero_lt_succ, Nat.zero_le, forall_const, List.cons.injEq, Value.int.injEq, Value.ref.injEq, Value.long.injEq, and_assoc, exists_and_left, exists_eq_left']
          try simp only [forall_eq]
          refine ⟨fun q => absurd q hnm0, fun _ => ⟨hfa, ?_⟩⟩
          rw [hl6]
          have h6 : (nI 6 : Int32).toInt = 6 := rfl
          by_cases hf : -6 ≤ cc
          · have hf2 : -6 ≤ cc.toInt := by rw [i_le] at hf; exact hf
            have hix : vp_in (-1 - cc) 6 := vp_in_iff.mpr ⟨by rw [hnm]; omega, by rw [hnm]; omega⟩
            refine ⟨fun q => absurd q (by rw [i_le, hnm, h6]; omega), fun _ => ⟨fun q => absurd q hk160, fun _ => ⟨t1, hfa, hix, t4, vp_in_nI (by omega) (by omega), ?_⟩⟩⟩
            rw [hnef]
            exact hpush _ (by unfold vst; rw [if_neg hcn, if_pos hf])
          · have hf2 : cc.toInt < -6 := by rw [i_le] at hf; have : (-6 : Int32).toInt = -6 := rfl; omega
            refine ⟨fun _ => ?_, fun q => absurd (by rw [i_le, hnm, h6]; omega) q⟩
            subst hB119
            unfold BX4_value_119
            generalize hB150 : BX4_value_150 g Q (T_X4_stepOfFact g) (T_X4_truth g) (T_X4_joined g) K31 = B150
            simp only [T_X4_stepOfFact, T_X4_truth, T_X4_joined, i_const, i_lconst, i_iload, i_aload, i_lload, i_istore, i_astore, i_lstore, i_iinc, i_bin, i_div, i_un, i_i2l, i_l2i, i_lbin, i_lcmp, i_if, i_icmp, i_dup, i_dup_x1, i_dup2, i_pop, i_geti, i_getr, i_getd, i_puti, i_putz, i_putd, i_iald, i_bald, i_aald, i_iast, i_bast, i_alen, i_keep, i_ret, i_retz, i_reta, i_retl, i_retv, i_callv, i_callk, i_calls, i_mm, i_copy, i_under, i_undld, i_ldcs, i_sw, q_swc0, q_swc1, q_lg0, q_lg1, q_lent0, q_lent1, lset, lset2, q_lins0, q_lins1, q_ldel0, q_ldel1, q_ldel20, q_ldel21, q_lkeep0, q_lkeep1, q_memb0, q_memb1, cat2, Nat.reduceBEq, decide_true, decide_false, decide_eq_true_eq, cond_true, cond_false, Bool.and_true, Bool.and_false, Bool.true_and, Bool.false_and, f_iadd, f_isub, f_imul, f_ishl, f_ishr, f_iushr, f_iand, f_ior, f_idiv, f_irem, f_ineg, f_i2b, f_i2s, f_ladd, f_lmul, c_eq, c_ne, c_lt, c_ge, c_gt, c_le, cc_eq, cc_ne, cc_lt, cc_ge, cc_gt, cc_le, rfo, aof, csum, Value.category, List.take, List.drop, List.reverse, List.reverseAux, List.map, List.sum_cons, List.sum_nil, List.cons_append, List.nil_append, Option.toList, List.mem_cons, List.not_mem_nil, List.length_cons, List.length_nil, reduceIte, Nat.reduceEqDiff, Nat.reduceAdd, Nat.reduceLeDiff, Nat.reduceLT, a_day, Nat.zero_ne_one, Nat.one_ne_zero, false_and, and_false, true_and, and_true, or_false, false_or, or_true, true_or, not_true_eq_false, not_false_eq_true, Nat.zero_add, Nat.add_zero, Nat.le_refl, Nat.lt_irrefl, Nat.zero_lt_succ, Nat.zero_le, forall_const, List.cons.injEq, Value.int.injEq, Value.ref.injEq, Value.long.injEq, and_assoc, exists_and_left, exists_eq_left']
            try simp only [forall_eq]
            by_cases e11 : cc = -11
            · subst e11
              refine ⟨fun q => absurd rfl q, fun _ => ⟨fun q => ?_, fun q => ?_⟩⟩
              · exfalso
                match k, hdc, q with
                | [], hdc, q => cases hdc
                | a :: k2, hdc, q => exact nI_nle (n := (a :: k2).length) (by simp) (by omega) q
              · match k, q, hdc, hkl, hps, fin with
                | [], q, hdc, _, _, _ => cases hdc
                | a :: k2, q, hdc, hkl, hps, fin =>
                  simp only [List.length_cons] at hkl
                  have et : (nI (a :: k2).length - 1 : Int32) = nI k2.length := nI_pred _
                  simp only [et]
                  refine ⟨t1, t1, t4, vp_in_nI (by omega) (by omega), t4, vp_in_nI (by omega) (by omega), ?_⟩
                  rw [nI_clamp (by omega)]
                  refine fin (-a :: k2) _ _ rfl rfl (hs.set _ rfl) ⟨?_, PS_upd (fun j hj => ms_j (by omega)) hps.2⟩
                  rw [ms_s, hps.1]
            · refine ⟨fun _ => ?_, fun q => absurd e11 q⟩
              subst hB150
              unfold BX4_value_150
              generalize hB184 : BX4_value_184 g Q (T_X4_stepOfFact g) (T_X4_truth g) (T_X4_joined g) K31 = B184
              generalize hB191 : BX4_value_191 g Q (T_X4_stepOfFact g) (T_X4_truth g) (T_X4_joined g) K31 = B191
              simp only [T_X4_stepOfFact, T_X4_truth, T_X4_joined, i_const, i_lconst, i_iload, i_aload, i_lload, i_istore, i_astore, i_lstore, i_iinc, i_bin, i_div, i_un, i_i2l, i_l2i, i_lbin, i_lcmp, i_if, i_icmp, i_dup, i_dup_x1, i_dup2, i_pop, i_geti, i_getr, i_getd, i_puti, i_putz, i_putd, i_iald, i_bald, i_aald, i_iast, i_bast, i_alen, i_keep, i_ret, i_retz, i_reta, i_retl, i_retv, i_callv, i_callk, i_calls, i_mm, i_copy, i_under, i_undld, i_ldcs, i_sw, q_swc0, q_swc1, q_lg0, q_lg1, q_lent0, q_lent1, lset, lset2, q_lins0, q_lins1, q_ldel0, q_ldel1, q_ldel20, q_ldel21, q_lkeep0, q_lkeep1, q_memb0, q_memb1, cat2, Nat.reduceBEq, decide_true, decide_false, decide_eq_true_eq, cond_true, cond_false, Bool.and_true, Bool.and_false, Bool.true_and, Bool.false_and, f_iadd, f_isub, f_imul, f_ishl, f_ishr, f_iushr, f_iand, f_ior, f_idiv, f_irem, f_ineg, f_i2b, f_i2s, f_ladd, f_lmul, c_eq, c_ne, c_lt, c_ge, c_gt, c_le, cc_eq, cc_ne, cc_lt, cc_ge, cc_gt, cc_le, rfo, aof, csum, Value.category, List.take, List.drop, List.reverse, List.reverseAux, List.map, List.sum_cons, List.sum_nil, List.cons_append, List.nil_append, Option.toList, List.mem_cons, List.not_mem_nil, List.length_cons, List.length_nil, reduceIte, Nat.reduceEqDiff, Nat.reduceAdd, Nat.reduceLeDiff, Nat.reduceLT, a_day, Nat.zero_ne_one, Nat.one_ne_zero, false_and, and_false, true_and, and_true, or_false, false_or, or_true, true_or, not_true_eq_false, not_false_eq_true, Nat.zero_add, Nat.add_zero, Nat.le_refl, Nat.lt_irrefl, Nat.zero_lt_succ, Nat.zero_le, forall_const, List.cons.injEq, Value.int.injEq, Value.ref.injEq, Value.long.injEq, and_assoc, exists_and_left, exists_eq_left']
              try simp only [forall_eq]
              by_cases e12 : cc = -12
              · subst e12
                refine ⟨fun q => absurd rfl q, fun _ => ⟨fun q => ?_, fun q => ?_⟩⟩
                · exfalso
                  match k, hdc, q with
                  | [], hdc, q => cases hdc
                  | a :: k2, hdc, q => exact nI_nle (n := (a :: k2).length) (by simp) (by omega) q
                · match k, q, hdc, hkl, hps, fin with
                  | [], q, hdc, _, _, _ => cases hdc
                  | a :: k2, q, hdc, hkl, hps, fin =>
                    simp only [List.length_cons] at hkl
                    have et : (nI (a :: k2).length - 1 : Int32) = nI k2.length := nI_pred _
                    simp only [et]
                    refine ⟨t1, t1, t4, vp_in_nI (by omega) (by omega), ?_⟩
                    rw [nI_clamp (by omega), hps.1]
                    have fin2 := fun x (hx : x = b2i (a = 0)) => fin (x :: k2) (mset M1 (r + 3) k2.length x) _ (by rw [hx]; rfl) rfl (hs.set _ rfl) ⟨ms_s _ _ _ _, PS_upd (fun j hj => ms_j (by omega)) hps.2⟩
                    refine ⟨fun q => ?_, fun q => ?_⟩
                    · subst hB184
                      unfold BX4_value_184
                      generalize hB187 : BX4_value_187 g Q (T_X4_stepOfFact g) (T_X4_truth g) (T_X4_joined g) K31 = B187
                      simp only [T_X4_stepOfFact, T_X4_truth, T_X4_joined, i_const, i_lconst, i_iload, i_aload, i_lload, i_istore, i_astore, i_lstore, i_iinc, i_bin, i_div, i_un, i_i2l, i_l2i, i_lbin, i_lcmp, i_if, i_icmp, i_dup, i_dup_x1, i_dup2, i_pop, i_geti, i_getr, i_getd, i_puti, i_putz, i_putd, i_iald, i_bald, i_aald, i_iast, i_bast, i_alen, i_keep, i_ret, i_retz, i_reta, i_retl, i_retv, i_callv, i_callk, i_calls, i_mm, i_copy, i_under, i_undld, i_ldcs, i_sw, q_swc0, q_swc1, q_lg0, q_lg1, q_lent0, q_lent1, lset, lset2, q_lins0, q_lins1, q_ldel0, q_ldel1, q_ldel20, q_ldel21, q_lkeep0, q_lkeep1, q_memb0, q_memb1, cat2, Nat.reduceBEq, decide_true, decide_false, decide_eq_true_eq, cond_true, cond_false, Bool.and_true, Bool.and_false, Bool.true_and, Bool.false_and, f_iadd, f_isub, f_imul, f_ishl, f_ishr, f_iushr, f_iand, f_ior, f_idiv, f_irem, f_ineg, f_i2b, f_i2s, f_ladd, f_lmul, c_eq, c_ne, c_lt, c_ge, c_gt, c_le, cc_eq, cc_ne, cc_lt, cc_ge, cc_gt, cc_le, rfo, aof, csum, Value.category, List.take, List.drop, List.reverse, List.reverseAux, List.map, List.sum_cons, List.sum_nil, List.cons_append, List.nil_append, Option.toList, List.mem_cons, List.not_mem_nil, List.length_cons, List.length_nil, reduceIte, Nat.reduceEqDiff, Nat.reduceAdd, Nat.reduceLeDiff, Nat.reduceLT, a_day, Nat.zero_ne_one, Nat.one_ne_zero, false_and, and_false, true_and, and_true, or_false, false_or, or_true, true_or, not_true_eq_false, not_false_eq_true, Nat.zero_add, Nat.add_zero, Nat.le_refl, Nat.lt_irrefl, Nat.zero_lt_succ, Nat.zero_le, forall_const, List.cons.injEq, Value.int.injEq, Value.ref.injEq, Value.long.injEq, and_assoc, exists_and_left, exists_eq_left']
                      try simp only [forall_eq]
                      subst hB187
                      unfold BX4_value_187
                      simp only [T_X4_stepOfFact, T_X4_truth, T_X4_joined, i_const, i_lconst, i_iload, i_aload, i_lload, i_istore, i_astore, i_lstore, i_iinc, i_bin, i_div, i_un, i_i2l, i_l2i, i_lbin, i_lcmp, i_if, i_icmp, i_dup, i_dup_x1, i_dup2, i_pop, i_geti, i_getr, i_getd, i_puti, i_putz, i_putd, i_iald, i_bald, i_aald, i_iast, i_bast, i_alen, i_keep, i_ret, i_retz, i_reta, i_retl, i_retv, i_callv, i_callk, i_calls, i_mm, i_copy, i_under, i_undld, i_ldcs, i_sw, q_swc0, q_swc1, q_lg0, q_lg1, q_lent0, q_lent1, lset, lset2, q_lins0, q_lins1, q_ldel0, q_ldel1, q_ldel20, q_ldel21, q_lkeep0, q_lkeep1, q_memb0, q_memb1, cat2, Nat.reduceBEq, decide_true, decide_false, decide_eq_true_eq, cond_true, cond_false, Bool.and_true, Bool.and_false, Bool.true_and, Bool.false_and, f_iadd, f_isub, f_imul, f_ishl, f_ishr, f_iushr, f_iand, f_ior, f_idiv, f_irem, f_ineg, f_i2b, f_i2s, f_ladd, f_lmul, c_eq, c_ne, c_lt, c_ge, c_gt, c_le, cc_eq, cc_ne, cc_lt, cc_ge, cc_gt, cc_le, rfo, aof, csum, Value.category, List.take, List.drop, List.reverse, List.reverseAux, List.map, List.sum_cons, List.sum_nil, List.cons_append, List.nil_append, Option.toList, List.mem_cons, List.not_mem_nil, List.length_cons, List.length_nil, reduceIte, Nat.reduceEqDiff, Nat.reduceAdd, Nat.reduceLeDiff, Nat.reduceLT, a_day, Nat.zero_ne_one, Nat.one_ne_zero, false_and, and_false, true_and, and_true, or_false, false_or, or_true, true_or, not_true_eq_false, not_false_eq_true, Nat.zero_add, Nat.add_zero, Nat.le_refl, Nat.lt_irrefl, Nat.zero_lt_succ, Nat.zero_le, forall_const, List.cons.injEq, Value.int.injEq, Value.ref.injEq, Value.long.injEq, and_assoc, exists_and_left, exists_eq_left']
                      try simp only [forall_eq]
                      refine ⟨t4, vp_in_nI (by omega) (by omega), ?_⟩
                      rw [nI_clamp (by omega)]
                      exact fin2 _ (by rw [b2i_f q]; rfl)
                    · subst hB184
                      unfold BX4_value_184
                      generalize hB187 : BX4_value_187 g Q (T_X4_stepOfFact g) (T_X4_truth g) (T_X4_joined g) K31 = B187
                      simp only [T_X4_truth, i_const, i_lconst, i_iload, i_aload, i_lload, i_istore, i_astore, i_lstore, i_iinc, i_bin, i_div, i_un, i_i2l, i_l2i, i_lbin, i_lcmp, i_if, i_icmp, i_dup, i_dup_x1, i_dup2, i_pop, i_geti, i_getr, i_getd, i_puti, i_putz, i_putd, i_iald, i_bald, i_aald, i_iast, i_bast, i_alen, i_keep, i_ret, i_retz, i_reta, i_retl, i_retv, i_callv, i_callk, i_calls, i_mm, i_copy, i_under, i_undld, i_ldcs, i_sw, q_swc0, q_swc1, q_lg0, q_lg1, q_lent0, q_lent1, lset, lset2, q_lins0, q_lins1, q_ldel0, q_ldel1, q_ldel20, q_ldel21, q_lkeep0, q_lkeep1, q_memb0, q_memb1, cat2, Nat.reduceBEq, decide_true, decide_false, decide_eq_true_eq, cond_true, cond_false, Bool.and_true, Bool.and_false, Bool.true_and, Bool.false_and, f_iadd, f_isub, f_imul, f_ishl, f_ishr, f_iushr, f_iand, f_ior, f_idiv, f_irem, f_ineg, f_i2b, f_i2s, f_ladd, f_lmul, c_eq, c_ne, c_lt, c_ge, c_gt, c_le, cc_eq, cc_ne, cc_lt, cc_ge, cc_gt, cc_le, rfo, aof, csum, Value.category, List.take, List.drop, List.reverse, List.reverseAux, List.map, List.sum_cons, List.sum_nil, List.cons_append, List.nil_append, Option.toList, List.mem_cons, List.not_mem_nil, List.length_cons, List.length_nil, reduceIte, Nat.reduceEqDiff, Nat.reduceAdd, Nat.reduceLeDiff, Nat.reduceLT, a_day, Nat.zero_ne_one, Nat.one_ne_zero, false_and, and_false, true_and, and_true, or_false, false_or, or_true, true_or, not_true_eq_false, not_false_eq_true, Nat.zero_add, Nat.add_zero, Nat.le_refl, Nat.lt_irrefl, Nat.zero_lt_succ, Nat.zero_le, forall_const, List.cons.injEq, Value.int.injEq, Value.ref.injEq, Value.long.injEq, and_assoc, exists_and_left, exists_eq_left']
                      subst hB187
                      unfold BX4_value_187
                      simp only [T_X4_stepOfFact, T_X4_truth, T_X4_joined, i_const, i_lconst, i_iload, i_aload, i_lload, i_istore, i_astore, i_lstore, i_iinc, i_bin, i_div, i_un, i_i2l, i_l2i, i_lbin, i_lcmp, i_if, i_icmp, i_dup, i_dup_x1, i_dup2, i_pop, i_geti, i_getr, i_getd, i_puti, i_putz, i_putd, i_iald, i_bald, i_aald, i_iast, i_bast, i_alen, i_keep, i_ret, i_retz, i_reta, i_retl, i_retv, i_callv, i_callk, i_calls, i_mm, i_copy, i_under, i_undld, i_ldcs, i_sw, q_swc0, q_swc1, q_lg0, q_lg1, q_lent0, q_lent1, lset, lset2, q_lins0, q_lins1, q_ldel0, q_ldel1, q_ldel20, q_ldel21, q_lkeep0, q_lkeep1, q_memb0, q_memb1, cat2, Nat.reduceBEq, decide_true, decide_false, decide_eq_true_eq, cond_true, cond_false, Bool.and_true, Bool.and_false, Bool.true_and, Bool.false_and, f_iadd, f_isub, f_imul, f_ishl, f_ishr, f_iushr, f_iand, f_ior, f_idiv, f_irem, f_ineg, f_i2b, f_i2s, f_ladd, f_lmul, c_eq, c_ne, c_lt, c_ge, c_gt, c_le, cc_eq, cc_ne, cc_lt, cc_ge, cc_gt, cc_le, rfo, aof, csum, Value.category, List.take, List.drop, List.reverse, List.reverseAux, List.map, List.sum_cons, List.sum_nil, List.cons_append, List.nil_append, Option.toList, List.mem_cons, List.not_mem_nil, List.length_cons, List.length_nil, reduceIte, Nat.reduceEqDiff, Nat.reduceAdd, Nat.reduceLeDiff, Nat.reduceLT, a_day, Nat.zero_ne_one, Nat.one_ne_zero, false_and, and_false, true_and, and_true, or_false, false_or, or_true, true_or, not_true_eq_false, not_false_eq_true, Nat.zero_add, Nat.add_zero, Nat.le_refl, Nat.lt_irrefl, Nat.zero_lt_succ, Nat.zero_le, forall_const, List.cons.injEq, Value.int.injEq, Value.ref.injEq, Value.long.injEq, and_assoc, exists_and_left, exists_eq_left']
                      try simp only [forall_eq]
                      refine ⟨t4, vp_in_nI (by omega) (by omega), ?_⟩
                      rw [nI_clamp (by omega)]
                      exact fin2 _ (by rw [b2i_t (Decidable.not_not.mp q)]; rfl)
              · refine ⟨fun _ => ?_, fun q => absurd e12 q⟩
                have hnn : ¬ (cc = -11 ∨ cc = -12) := fun q => q.elim e11 e12
                have hdd : -19 ≤ cc ∧ cc ≤ -13 ∧ 2 ≤ k.length := by
                  unfold dst at hdc
                  rw [if_neg hcn, if_neg hf, if_neg hnn] at hdc
                  split at hdc
                  · next w =>
                    split at hdc
                    · next w2 => exact ⟨w.1, w.2, w2⟩
                    · cases hdc
                  · cases hdc
                match k, hdd.2.2, hkl, hps, fin with
                | b2 :: a2 :: k2, _, hkl, hps, fin =>
                  simp only [List.length_cons] at hkl
                  have et : (nI (k2.length + 1 + 1) + -1 : Int32) = nI (k2.length + 1) := pk_m1 _
                  have et2 : (nI (k2.length + 1) - 1 : Int32) = nI k2.length := nI_pred _
                  subst hB191
                  unfold BX4_value_191
                  generalize hB225 : BX4_value_225 g Q (T_X4_stepOfFact g) (T_X4_truth g) (T_X4_joined g) K31 = B225
                  simp only [T_X4_stepOfFact, T_X4_truth, T_X4_joined, i_const, i_lconst, i_iload, i_aload, i_lload, i_istore, i_astore, i_lstore, i_iinc, i_bin, i_div, i_un, i_i2l, i_l2i, i_lbin, i_lcmp, i_if, i_icmp, i_dup, i_dup_x1, i_dup2, i_pop, i_geti, i_getr, i_getd, i_puti, i_putz, i_putd, i_iald, i_bald, i_aald, i_iast, i_bast, i_alen, i_keep, i_ret, i_retz, i_reta, i_retl, i_retv, i_callv, i_callk, i_calls, i_mm, i_copy, i_under, i_undld, i_ldcs, i_sw, q_swc0, q_swc1, q_lg0, q_lg1, q_lent0, q_lent1, lset, lset2, q_lins0, q_lins1, q_ldel0, q_ldel1, q_ldel20, q_ldel21, q_lkeep0, q_lkeep1, q_memb0, q_memb1, cat2, Nat.reduceBEq, decide_true, decide_false, decide_eq_true_eq, cond_true, cond_false, Bool.and_true, Bool.and_false, Bool.true_and, Bool.false_and, f_iadd, f_isub, f_imul, f_ishl, f_ishr, f_iushr, f_iand, f_ior, f_idiv, f_irem, f_ineg, f_i2b, f_i2s, f_ladd, f_lmul, c_eq, c_ne, c_lt, c_ge, c_gt, c_le, cc_eq, cc_ne, cc_lt, cc_ge, cc_gt, cc_le, rfo, aof, csum, Value.category, List.take, List.drop, List.reverse, List.reverseAux, List.map, List.sum_cons, List.sum_nil, List.cons_append, List.nil_append, Option.toList, List.mem_cons, List.not_mem_nil, List.length_cons, List.length_nil, reduceIte, Nat.reduceEqDiff, Nat.reduceAdd, Nat.reduceLeDiff, Nat.reduceLT, a_day, Nat.zero_ne_one, Nat.one_ne_zero, false_and, and_false, true_and, and_true, or_false, false_or, or_true, true_or, not_true_eq_false, not_false_eq_true, Nat.zero_add, Nat.add_zero, Nat.le_refl, Nat.lt_irrefl, Nat.zero_lt_succ, Nat.zero_le, forall_const, List.cons.injEq, Value.int.injEq, Value.ref.injEq, Value.long.injEq, and_assoc, exists_and_left, exists_eq_left']
                  try simp only [forall_eq]
                  simp only [et, et2]
                  refine ⟨fun q => absurd q ?_, fun _ => ⟨t1, t1, t4, vp_in_nI (by omega) (by omega), t1, t4, vp_in_nI (by omega) (by omega), ?_⟩⟩
                  · rw [c1, nI_leI (by omega) (by omega)]
                    omega
                  · subst hB225
                    unfold BX4_value_225
                    simp only [T_X4_stepOfFact, T_X4_truth, T_X4_joined, i_const, i_lconst, i_iload, i_aload, i_lload, i_istore, i_astore, i_lstore, i_iinc, i_bin, i_div, i_un, i_i2l, i_l2i, i_lbin, i_lcmp, i_if, i_icmp, i_dup, i_dup_x1, i_dup2, i_pop, i_geti, i_getr, i_getd, i_puti, i_putz, i_putd, i_iald, i_bald, i_aald, i_iast, i_bast, i_alen, i_keep, i_ret, i_retz, i_reta, i_retl, i_retv, i_callv, i_callk, i_calls, i_mm, i_copy, i_under, i_undld, i_ldcs, i_sw, q_swc0, q_swc1, q_lg0, q_lg1, q_lent0, q_lent1, lset, lset2, q_lins0, q_lins1, q_ldel0, q_ldel1, q_ldel20, q_ldel21, q_lkeep0, q_lkeep1, q_memb0, q_memb1, cat2, Nat.reduceBEq, decide_true, decide_false, decide_eq_true_eq, cond_true, cond_false, Bool.and_true, Bool.and_false, Bool.true_and, Bool.false_and, f_iadd, f_isub, f_imul, f_ishl, f_ishr, f_iushr, f_iand, f_ior, f_idiv, f_irem, f_ineg, f_i2b, f_i2s, f_ladd, f_lmul, c_eq, c_ne, c_lt, c_ge, c_gt, c_le, cc_eq, cc_ne, cc_lt, cc_ge, cc_gt, cc_le, rfo, aof, csum, Value.category, List.take, List.drop, List.reverse, List.reverseAux, List.map, List.sum_cons, List.sum_nil, List.cons_append, List.nil_append, Option.toList, List.mem_cons, List.not_mem_nil, List.length_cons, List.length_nil, reduceIte, Nat.reduceEqDiff, Nat.reduceAdd, Nat.reduceLeDiff, Nat.reduceLT, a_day, Nat.zero_ne_one, Nat.one_ne_zero, false_and, and_false, true_and, and_true, or_false, false_or, or_true, true_or, not_true_eq_false, not_false_eq_true, Nat.zero_add, Nat.add_zero, Nat.le_refl, Nat.lt_irrefl, Nat.zero_lt_succ, Nat.zero_le, forall_const, List.cons.injEq, Value.int.injEq, Value.ref.injEq, Value.long.injEq, and_assoc, exists_and_left, exists_eq_left']
                    try simp only [forall_eq]
                    refine ⟨t4, vp_in_nI (by omega) (by omega), ?_⟩
                    have q1 : M1 (r + 3) (k2.length + 1) = b2 := hps.1
                    have q2 : M1 (r + 3) k2.length = a2 := hps.2.1
                    rw [nI_clamp (show k2.length < 2 ^ 31 by omega), nI_clamp (show k2.length + 1 < 2 ^ 31 by omega), q1, q2]
                    refine fin (joi cc a2 b2 :: k2) _ _ ?_ rfl (hs.set _ rfl) ⟨ms_s _ _ _ _, PS_upd (fun j hj => ms_j (by omega)) hps.2.2⟩
                    unfold vst
                    rw [if_neg hcn, if_neg hf]
                    simp [e11, e12]
      
    refine s_of (fun lv st M0 hs => ?_) (WX4_value_0 C (t_X4_stepOfFact hr) (by decide) (t_X4_truth hr) (by decide) (t_X4_joined hr) (by decide) L31)
    obtain ⟨rfl, rfl, rfl⟩ := hs
    unfold BX4_value_0
    simp only [T_X4_stepOfFact, T_X4_truth, T_X4_joined, i_const, i_lconst, i_iload, i_aload, i_lload, i_istore, i_astore, i_lstore, i_iinc, i_bin, i_div, i_un, i_i2l, i_l2i, i_lbin, i_lcmp, i_if, i_icmp, i_dup, i_dup_x1, i_dup2, i_pop, i_geti, i_getr, i_getd, i_puti, i_putz, i_putd, i_iald, i_bald, i_aald, i_iast, i_bast, i_alen, i_keep, i_ret, i_retz, i_reta, i_retl, i_retv, i_callv, i_callk, i_calls, i_mm, i_copy, i_under, i_undld, i_ldcs, i_sw, q_swc0, q_swc1, q_lg0, q_lg1, q_lent0, q_lent1, lset, lset2, q_lins0, q_lins1, q_ldel0, q_ldel1, q_ldel20, q_ldel21, q_lkeep0, q_lkeep1, q_memb0, q_memb1, cat2, Nat.reduceBEq, decide_true, decide_false, decide_eq_true_eq, cond_true, cond_false, Bool.and_true, Bool.and_false, Bool.true_and, Bool.false_and, f_iadd, f_isub, f_imul, f_ishl, f_ishr, f_iushr, f_iand, f_ior, f_idiv, f_irem, f_ineg, f_i2b, f_i2s, f_ladd, f_lmul, c_eq, c_ne, c_lt, c_ge, c_gt, c_le, cc_eq, cc_ne, cc_lt, cc_ge, cc_gt, cc_le, rfo, aof, csum, Value.category, List.take, List.drop, List.reverse, List.reverseAux, List.map, List.sum_cons, List.sum_nil, List.cons_append, List.nil_append, Option.toList, List.mem_cons, List.not_mem_nil, List.length_cons, List.length_nil, reduceIte, Nat.reduceEqDiff, Nat.reduceAdd, Nat.reduceLeDiff, Nat.reduceLT, a_day, Nat.zero_ne_one, Nat.one_ne_zero, false_and, and_false, true_and, and_true, or_false, false_or, or_true, true_or, not_true_eq_false, not_false_eq_true, Nat.zero_add, Nat.add_zero, Nat.le_refl, Nat.lt_irrefl, Nat.zero_lt_succ, Nat.zero_le, forall_const, List.cons.injEq, Value.int.injEq, Value.ref.injEq, Value.long.injEq, and_assoc, exists_and_left, exists_eq_left']
    try simp only [forall_eq]
    have hp3 : ¬ (nI p' : Int32) < 0 := nI_pos (by omega)
    have hpl : (nI p' : Int32) < 3 := nI_lt (b := 3) hp (by omega)
    refine ⟨fun z => absurd z hp3, fun _ => ⟨fun _ => ⟨fun z => ?_, fun z => ?_⟩, fun z => absurd hpl z⟩⟩
    · have hp0 : 0 < p' := by
        rcases Nat.eq_zero_or_pos p' with q | q
        · subst q; exact absurd rfl z
        · exact q
      obtain ⟨p2, rfl⟩ : ∃ p2, p' = p2 + 1 := ⟨p' - 1, by omega⟩
      rw [nI_pred]
      refine ⟨t1, t3, vp_in_nI (by omega) (by omega), iE31 (e1 - b) _ _ _ ?_⟩
      rw [hI31]
      obtain ⟨w1, w2, w3, -⟩ := hX p2 (by omega)
      have hbe : xe M0 r p2 = b := by rw [← hb]; unfold xb xe; rw [if_neg (by omega)]; rfl
      rw [nI_clamp (by omega), w1, hbe]
      refine ⟨b, [], rfl, rfl, by omega, x2, rfl, Sm.rf, by simp, ?_, by rw [hxc], trivial⟩
      rw [← hxc]; exact x4
    · have hp0 : p' = 0 := by
        rcases Nat.eq_zero_or_pos p' with q | q
        · exact q
        · exact absurd (nI_ne0 q (by omega)) z
      subst hp0
      have hb0 : b = 0 := by rw [← hb]; rfl
      refine iE31 (e1 - b) _ _ _ ?_
      rw [hI31]
      subst hb0
      refine ⟨0, [], rfl, rfl, by omega, x2, rfl, Sm.rf, by simp, ?_, by rw [hxc], trivial⟩
      rw [← hxc]; exact x4
