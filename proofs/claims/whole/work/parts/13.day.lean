/-! ===== the class's day: what it reads ===== -/
theorem vst_congr {f f' : Nat → Int32} (h : ∀ i, i < 6 → f i = f' i) (c : Int32) (k : List Int32) : vst f c k = vst f' c k := by
  unfold vst
  split
  · rfl
  · next h0 =>
    split
    · next h1 =>
      have h0' : c < 0 := i_not_le.mp h0
      have hn := neg1 h0'
      rw [i_lt, Int32.toInt_zero] at h0'
      have h2 : -6 ≤ c.toInt := by rw [i_le] at h1; exact h1
      have hx : (-1 - c).toNatClampNeg < 6 := by
        have : vp_in (-1 - c) 6 := vp_in_iff.mpr ⟨by omega, by omega⟩
        exact Nat.not_le.mp fun q => this (Or.inr q)
      rw [h _ hx]
    · rfl
theorem vls_congr {f f' : Nat → Int32} (h : ∀ i, i < 6 → f i = f' i) : ∀ (cs k : List Int32), vls f cs k = vls f' cs k
  | [], _ => rfl
  | c :: t, k => by simp only [vls]; rw [vst_congr h, vls_congr h t]
theorem val_congr {f f' : Nat → Int32} (h : ∀ i, i < 6 → f i = f' i) (cs : List Int32) : val cs f = val cs f' := by unfold val; rw [vls_congr h]
def isPile (a : Nat) : Prop := 8 ≤ a ∧ a < 32 ∧ a % 4 = 3
/-- the facts' row and the piles -/
def XF (q : Nat) : Nat → Nat → Prop := fun a _ => a = q + 4 ∨ isPile a
/-- what weighing writes -/
def XP (q : Nat) : Nat → Nat → Prop := fun a j => (a = q ∧ (j = 7 ∨ j = 8)) ∨ a = q + 3 ∨ a = q + 4 ∨ isPile a
/-- a whole day, and the piles -/
def XD (q : Nat) : Nat → Nat → Prop := fun a _ => (q ≤ a ∧ a < q + 12) ∨ isPile a
theorem XF_P {q a j : Nat} (h : XF q a j) : XP q a j := by rcases h with h | h; exact Or.inr (Or.inr (Or.inl h)); exact Or.inr (Or.inr (Or.inr h))
theorem XP_D {q a j : Nat} (h : XP q a j) : XD q a j := by
  rcases h with ⟨h, -⟩ | h | h | h
  · exact Or.inl (by omega)
  · exact Or.inl (by omega)
  · exact Or.inl (by omega)
  · exact Or.inr h
theorem dv_sm {Y : Nat → Nat → Prop} {M M' : MM} {q : Nat} (h : Sm Y M M') (h1 : ∀ j, ¬ Y (q + 1) j) (h2 : ∀ j, j = 4 ∨ j = 5 ∨ j = 6 → ¬ Y q j) (h3 : ∀ s j, s < 7 → ¬ Y (q + 5 + s) j) (hn : dn (dv M q) ≤ 7) : dv M' q = dv M q :=
  dv_ext (fun j _ => h _ _ (h1 j)) (fun j hj => h _ _ (h2 j hj)) (fun s j hs _ => h _ _ (h3 s j (by omega)))
theorem dv_P {M M' : MM} {q q' : Nat} (h : Sm (XP q) M M') (hq : isD q) (hq' : isD q') (hn : dn (dv M q') ≤ 7) : dv M' q' = dv M q' := by
  unfold isD at hq hq'
  refine dv_sm h (fun j => ?_) (fun j hj => ?_) (fun s j hs => ?_) hn <;> (unfold XP isPile; omega)
theorem xc_sm {Y : Nat → Nat → Prop} {M M' : MM} {r : Nat} (h : Sm Y M M') (h1 : ∀ j, ¬ Y (r + 1) j) (h2 : ∀ j, ¬ Y (r + 2) j) : xc M' r = xc M r ∧ (txOK M r → txOK M' r) := by
  have e1 : M' (r + 1) = M (r + 1) := funext fun j => h _ _ (h1 j)
  have e2 : M' (r + 2) = M (r + 2) := funext fun j => h _ _ (h2 j)
  have e3 : xc M' r = xc M r := by funext p; simp only [xc, xb, xe, e1, e2]
  refine ⟨e3, fun ht p hp => ?_⟩
  rw [e3]
  have := ht p hp
  simp only [xe, xb, e2] at this ⊢
  exact this
theorem xc_D {M M' : MM} {q t : Nat} (h : Sm (XD q) M M') (hq : isD q) (ht : t < 6) : xc M' (8 + 4 * t) = xc M (8 + 4 * t) ∧ (txOK M (8 + 4 * t) → txOK M' (8 + 4 * t)) := by
  unfold isD at hq
  refine xc_sm h (fun j => ?_) (fun j => ?_) <;> (unfold XD isPile; omega)
/-- the class's day at q is good, and so are the texts -/
def okD (M : MM) (q : Nat) : Prop := isD q ∧ ∃ T, wfD (dv M q) T ∧ ∀ t, t < T → txOK M (8 + 4 * t)
theorem okD.n {M : MM} {q : Nat} (h : okD M q) : dn (dv M q) ≤ 7 := by obtain ⟨-, T, h, -⟩ := h; exact h.2.1
theorem okD.many {M : MM} {q : Nat} (h : okD M q) : M q 6 = nI (dn (dv M q)) := by obtain ⟨-, T, h, -⟩ := h; exact h.1
theorem okD.seam {M : MM} {q : Nat} (h : okD M q) {s : Nat} (hs : s < dn (dv M q)) : wfS (dv M q) s := by obtain ⟨-, T, h, -⟩ := h; exact h.2.2.1 s hs
theorem okD.rule {M : MM} {q : Nat} (h : okD M q) : ∃ t, t < 6 ∧ M q 4 = nI (8 + 4 * t) ∧ txOK M (8 + 4 * t) ∧ rix (dv M q) = 8 + 4 * t := by
  obtain ⟨-, T, h, h2⟩ := h
  obtain ⟨t, ht, e⟩ := h.2.2.2.1
  have h6 := h.2.2.2.2
  refine ⟨t, by omega, e, h2 t ht, ?_⟩
  unfold rix; rw [e, nI_clamp (by omega)]
theorem okD.keep {M M' : MM} {q : Nat} (h : okD M q) (hd : dv M' q = dv M q) (hx : ∀ t, t < 6 → txOK M (8 + 4 * t) → txOK M' (8 + 4 * t)) : okD M' q := by
  obtain ⟨h1, T, h2, h3⟩ := h
  refine ⟨h1, T, by rw [hd]; exact h2, fun t ht => hx t (by have := h2.2.2.2.2; omega) (h3 t ht)⟩
theorem okD.P {M M' : MM} {q q' : Nat} (h : okD M q') (hq : isD q) (hs : Sm (XP q) M M') : okD M' q' :=
  h.keep (dv_P hs hq h.1 h.n) (fun _ ht => (xc_D (hs.mono fun _ _ => XP_D) hq ht).2)
theorem rdv_n {k : Nat} (h : k < 1000) : rdv (nI k) = .ref k := by
  have hk : k < 2 ^ 31 := by omega
  unfold rdv; rw [if_neg (nI_pos hk), nI_clamp hk]
theorem whl_le (D : DV) : ∀ n, ∃ k, k ≤ n ∧ whl D n = nI k
  | 0 => ⟨0, Nat.le_refl _, rfl⟩
  | n + 1 => by
    obtain ⟨k, hk, e⟩ := whl_le D n
    by_cases h : D 6 n = 0
    · exact ⟨k + 1, by omega, by simp only [whl, h, if_true]; rw [e, nI_1]⟩
    · exact ⟨k, by omega, by simp only [whl, h, if_false]; rw [e, Int32.add_zero]⟩
def T_X0_whole (g : WG) (as : List Value) (M : MM) (Q : Option Value → MM → Prop) : Prop := ∃ (q : Nat), as = [.ref q] ∧ isD q ∧ M q 6 = nI (dn (dv M q)) ∧ dn (dv M q) ≤ 7 ∧ Q (some (.int (whl (dv M q) (dn (dv M q))))) M
set_option maxRecDepth 100000 in
set_option maxHeartbeats 1000000 in
theorem t_X0_whole {l : Launch} {g : WG} (hg : Full g) : Ct l g yX0_whole cX0_whole 3 ((Option.some FieldType.int)) 1 (T_X0_whole g) := by
  refine Ct.of (by decide) (fun as M Q h => ?_) (fun p e s m args below meth c as M Q h C => ?_)
  · obtain ⟨q, rfl, hq, h6, hn, h⟩ := h; exact ⟨by simp, by simp [Value.category]⟩
  · obtain ⟨q, rfl, hq, h6, hn, h⟩ := h
    obtain ⟨o1, o2, o3, o4, o5, ⟨l1, l2, l3, l4⟩, -⟩ := day_ok hg hq
    obtain ⟨I4, hI4⟩ : ∃ I : Nat → PP, I = (fun n lv st M' => M' = M ∧ ∃ k, lv = [(0, .ref q), (1, .int (whl (dv M q) k)), (2, .int (nI k))] ∧ st = [] ∧ k ≤ dn (dv M q) ∧ n = dn (dv M q) - k) := ⟨_, rfl⟩
    obtain ⟨E4, hE4⟩ : ∃ E : PP, E = (fun lv st M => ∃ n, I4 n lv st M) := ⟨_, rfl⟩
    have iE4 : ∀ n lv st M, I4 n lv st M → E4 lv st M := fun n lv st M h => by rw [hE4]; exact ⟨n, h⟩
    have L4 : Sj p l e 1 s m args below meth c 3 g (MQ below (cQc g Q) args s 0 0 (gA g)) 4 E4 := by
      rw [hE4]
      refine s_ex (s_loop I4 (fun K4 k4 => WX0_whole_4 C k4) ?_)
      intro n lv st M1 K4 hK4 hI; rw [hI4] at hI; obtain ⟨rfl, k, rfl, rfl, hk, rfl⟩ := hI
      unfold BX0_whole_4
      simp only [i_const, i_lconst, i_iload, i_aload, i_lload, i_istore, i_astore, i_lstore, i_iinc, i_bin, i_div, i_un, i_i2l, i_l2i, i_lbin, i_lcmp, i_if, i_icmp, i_dup, i_dup_x1, i_dup2, i_pop, i_geti, i_getr, i_getd, i_puti, i_putz, i_putd, i_iald, i_bald, i_aald, i_iast, i_bast, i_alen, i_keep, i_ret, i_retz, i_reta, i_retl, i_retv, i_callv, i_callk, i_calls, i_mm, i_copy, i_under, i_undld, i_ldcs, i_sw, q_swc0, q_swc1, q_lg0, q_lg1, q_lent0, q_lent1, lset, lset2, q_lins0, q_lins1, q_ldel0, q_ldel1, q_ldel20, q_ldel21, q_lkeep0, q_lkeep1, q_memb0, q_memb1, cat2, Nat.reduceBEq, decide_true, decide_false, decide_eq_true_eq, cond_true, cond_false, Bool.and_true, Bool.and_false, Bool.true_and, Bool.false_and, f_iadd, f_isub, f_imul, f_ishl, f_ishr, f_iushr, f_iand, f_ior, f_idiv, f_irem, f_ineg, f_i2b, f_i2s, f_ladd, f_lmul, c_eq, c_ne, c_lt, c_ge, c_gt, c_le, cc_eq, cc_ne, cc_lt, cc_ge, cc_gt, cc_le, rfo, aof, csum, Value.category, List.take, List.drop, List.reverse, List.reverseAux, List.map, List.sum_cons, List.sum_nil, List.cons_append, List.nil_append, Option.toList, List.mem_cons, List.not_mem_nil, List.length_cons, List.length_nil, reduceIte, Nat.reduceEqDiff, Nat.reduceAdd, Nat.reduceLeDiff, Nat.reduceLT, a_day, Nat.zero_ne_one, Nat.one_ne_zero, false_and, and_false, true_and, and_true, or_false, false_or, or_true, true_or, not_true_eq_false, not_false_eq_true, Nat.zero_add, Nat.add_zero, Nat.le_refl, Nat.lt_irrefl, Nat.zero_lt_succ, Nat.zero_le, forall_const, List.cons.injEq, Value.int.injEq, Value.ref.injEq, Value.long.injEq, and_assoc, exists_and_left, exists_eq_left']
      try simp only [forall_eq]
      rw [h6]
      refine ⟨o1, fun z => ?_, fun z => ?_⟩
      · have hkk : k = dn (dv M1 q) := by
          have := (nI_leI (a := dn (dv M1 q)) (b := k) (by omega) (by omega)).mp z
          omega
        rw [hkk]; exact h
      · have hlt : k < dn (dv M1 q) := by
          rcases Nat.lt_or_ge k (dn (dv M1 q)) with w | w
          · exact w
          · exact absurd (nI_le w (by omega)) z
        have hb : M1 (q + 5 + k) 5 = dv M1 q 6 k := (dv_s 5 (by omega) hlt).symm
        have fin : ∀ a b, a = whl (dv M1 q) (k + 1) → b = nI (k + 1) → K4 [(0, .ref q), (1, .int a), (2, .int b)] [] M1 := by
          intro a b ha hb2
          subst ha; subst hb2
          refine hK4 (dn (dv M1 q) - (k + 1)) _ _ _ (by omega) ?_
          rw [hI4]
          exact ⟨rfl, k + 1, rfl, rfl, by omega, rfl⟩
        rw [nI_clamp (by omega)]
        refine ⟨o1, o3, vp_in_nI (by omega) (by omega), seam_ok hg hq (by omega), fun y => fin _ _ ?_ (nI_1 k), fun y => fin _ _ ?_ (nI_1 k)⟩
        · rw [hb] at y; simp only [whl, y, if_true]
        · rw [hb] at y; simp only [whl, y, if_false]
      
    refine s_of (fun lv st M0 hs => ?_) (WX0_whole_0 C L4)
    obtain ⟨rfl, rfl, rfl⟩ := hs
    unfold BX0_whole_0
    simp only [i_const, i_lconst, i_iload, i_aload, i_lload, i_istore, i_astore, i_lstore, i_iinc, i_bin, i_div, i_un, i_i2l, i_l2i, i_lbin, i_lcmp, i_if, i_icmp, i_dup, i_dup_x1, i_dup2, i_pop, i_geti, i_getr, i_getd, i_puti, i_putz, i_putd, i_iald, i_bald, i_aald, i_iast, i_bast, i_alen, i_keep, i_ret, i_retz, i_reta, i_retl, i_retv, i_callv, i_callk, i_calls, i_mm, i_copy, i_under, i_undld, i_ldcs, i_sw, q_swc0, q_swc1, q_lg0, q_lg1, q_lent0, q_lent1, lset, lset2, q_lins0, q_lins1, q_ldel0, q_ldel1, q_ldel20, q_ldel21, q_lkeep0, q_lkeep1, q_memb0, q_memb1, cat2, Nat.reduceBEq, decide_true, decide_false, decide_eq_true_eq, cond_true, cond_false, Bool.and_true, Bool.and_false, Bool.true_and, Bool.false_and, f_iadd, f_isub, f_imul, f_ishl, f_ishr, f_iushr, f_iand, f_ior, f_idiv, f_irem, f_ineg, f_i2b, f_i2s, f_ladd, f_lmul, c_eq, c_ne, c_lt, c_ge, c_gt, c_le, cc_eq, cc_ne, cc_lt, cc_ge, cc_gt, cc_le, rfo, aof, csum, Value.category, List.take, List.drop, List.reverse, List.reverseAux, List.map, List.sum_cons, List.sum_nil, List.cons_append, List.nil_append, Option.toList, List.mem_cons, List.not_mem_nil, List.length_cons, List.length_nil, reduceIte, Nat.reduceEqDiff, Nat.reduceAdd, Nat.reduceLeDiff, Nat.reduceLT, a_day, Nat.zero_ne_one, Nat.one_ne_zero, false_and, and_false, true_and, and_true, or_false, false_or, or_true, true_or, not_true_eq_false, not_false_eq_true, Nat.zero_add, Nat.add_zero, Nat.le_refl, Nat.lt_irrefl, Nat.zero_lt_succ, Nat.zero_le, forall_const, List.cons.injEq, Value.int.injEq, Value.ref.injEq, Value.long.injEq, and_assoc, exists_and_left, exists_eq_left']
    try simp only [forall_eq]
    refine iE4 (dn (dv M0 q) - 0) _ _ _ ?_
    rw [hI4]
    exact ⟨rfl, 0, rfl, rfl, by omega, rfl⟩
