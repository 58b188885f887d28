/-! ===== the best: thread, move ===== -/
def cup1 (w c : Int32) (p : Int32 × Int32) : Int32 × Int32 := if p.2 = -1 ∨ p.1 < w then (w, c) else p
def thN (X : XV) (D : DV) (s n : Nat) : Nat → Int32 × Int32
  | 0 => (0, -1)
  | k + 1 => cup1 (alw X (upF D 1 s (nI k)) n) (nI k) (thN X D s n k)
def thrA (X : XV) (D : DV) (s n w : Int32) : Int32 := if ((0 ≤ s ∧ s < nI (dn D)) ∧ (0 ≤ n ∧ n ≤ 40)) ∧ (0 ≤ w ∧ w ≤ 1) then sel w (thN X D s.toNatClampNeg n.toNatClampNeg 6) else -1000000
/-- a seam of its length, begun elsewhere -/
def shfL (D : DV) (s f : Nat) : Nat := min 15 (f + (la D s - fi D s))
def shfD (D : DV) (s f : Nat) : DV := upF (upF D 3 s (nI f)) 4 s (nI (shfL D s f))
def mvN (X : XV) (D : DV) (s : Nat) : Nat → Int32 × Int32
  | 0 => (0, -1)
  | f + 1 => cup1 (wor X (shfD D s f)) (nI f) (mvN X D s f)
def mvA (X : XV) (D : DV) (s w : Int32) : Int32 := if (0 ≤ s ∧ s < nI (dn D)) ∧ (0 ≤ w ∧ w ≤ 1) then sel w (mvN X D s.toNatClampNeg 16) else -100000
theorem Sm.m2 {Y : Nat → Nat → Prop} {M M1 : MM} {q j : Nat} (x : Int32) (h : Sm (fun a b => Y a b ∨ (a = q ∧ b = j)) M M1) : Sm Y (mset M q j x) (mset M1 q j x) := by
  intro a b hy
  simp only [mset_app]
  split
  · next e =>
    split
    · rfl
    · next e2 => exact h a b (fun z => z.elim hy (fun z => e2 z.2))
  · next e => exact h a b (fun z => z.elim hy (fun z => e z.1))
theorem Sm.back {Y : Nat → Nat → Prop} {M M1 : MM} {q j : Nat} (h : Sm (fun a b => Y a b ∨ (a = q ∧ b = j)) M M1) : Sm Y M (mset M1 q j (M q j)) := by
  intro a b hy
  simp only [mset_app]
  split
  · next e =>
    split
    · next e2 => rw [e, e2]
    · next e2 => exact h a b (fun z => z.elim hy (fun z => e2 z.2))
  · next e => exact h a b (fun z => z.elim hy (fun z => e z.1))
theorem keepS {M M' : MM} (h : Sm YS M M') (ho : okM M) : okM M' ∧ dm M' = dm M ∧ xm M' = xm M := by
  have hn := ho.n
  have hd := YS_dm h hn
  have e5 : M' 85 = M 85 := funext fun j => h _ _ (by unfold YS; omega)
  have e6 : M' 86 = M 86 := funext fun j => h _ _ (by unfold YS; omega)
  have e7 : M' 87 = M 87 := funext fun j => h _ _ (by unfold YS; omega)
  exact ⟨ho.keep hd (h _ _ (by unfold YS; omega)) e5 e6 e7, hd, xm_eq e5 e6 e7⟩
theorem zM_S {M M' : MM} (h : Sm YS M M') (hz : zM M) : zM M' := fun s hs => by rw [h 83 s (by unfold YS; omega)]; exact hz s hs
theorem YS_Z {n a b : Nat} (hn : n ≤ 7) (h : YS a b) : YZ n a b := by unfold YS at h; unfold YZ; omega
theorem YL_S {a b : Nat} (h : YL a b) : YS a b := by unfold YL at h; unfold YS; omega
/-- the model with a field of a seam otherwise -/
theorem okM_f {M : MM} {f s : Nat} {x : Int32} (h0 : 0 < f) (h6 : f < 6) (hs : s < dn (dm M)) (ho : okM M) (hw : ∀ T, wfD (dm M) T → wfD (upF (dm M) f s x) T) : okM (mset M (77 + f) s x) ∧ dm (mset M (77 + f) s x) = upF (dm M) f s x ∧ xm (mset M (77 + f) s x) = xm M ∧ (zM M → zM (mset M (77 + f) s x)) := by
  have hd := dm_set (M := M) (x := x) h0 (by omega : f < 7) hs
  obtain ⟨T, hwf, htx, h9⟩ := ho
  obtain ⟨a, b⟩ := okM.to (Y := fun a b => a = 77 + f ∧ b = s) (Sm.rf.set x ⟨rfl, rfl⟩) hd (hw T hwf) htx h9 (by omega) (fun a b _ _ => by omega)
  exact ⟨a, hd, b, fun hz k hk => by rw [ms_q (by omega)]; exact hz k hk⟩
theorem wfD_f {D : DV} {T f s : Nat} {x : Int32} (h : wfD D T) (h0 : 0 < f) (h6 : f < 6) (h34 : ¬ f = 3 ∧ ¬ f = 4) (h1 : f = 1 → isN x 6) (h2 : f = 2 → isN x 10) (h5 : f = 5 → isN x 10000) : wfD (upF D f s x) T := by
  refine ⟨?_, ?_, fun k hk => ?_, ?_⟩
  · unfold dn; rw [upF_ne (by omega)]; exact h.1
  · unfold dn; rw [upF_ne (by omega)]; exact h.2.1
  · have hk2 : k < dn D := by unfold dn at hk ⊢; rwa [upF_ne (by omega)] at hk
    obtain ⟨w1, w2, w3, w4, w5, w6, w7, w8⟩ := h.2.2.1 k hk2
    unfold wfS fi la
    rw [upF_ne (f := 3) (by omega), upF_ne (f := 4) (by omega), upF_ne (f := 6) (by omega)]
    refine ⟨w1, w2, w3, w4, ?_, w6, ?_, ?_⟩
    · by_cases e : 5 = f ∧ k = s
      · obtain ⟨rfl, rfl⟩ := e; rw [upF_s]; exact h5 rfl
      · unfold upF; rw [if_neg e]; exact w5
    · by_cases e : 1 = f ∧ k = s
      · obtain ⟨rfl, rfl⟩ := e; rw [upF_s]; exact h1 rfl
      · unfold upF; rw [if_neg e]; exact w7
    · by_cases e : 2 = f ∧ k = s
      · obtain ⟨rfl, rfl⟩ := e; rw [upF_s]; exact h2 rfl
      · unfold upF; rw [if_neg e]; exact w8
  · obtain ⟨⟨t, ht, e⟩, b⟩ := h.2.2.2
    exact ⟨⟨t, ht, by rw [upF_ne (by omega)]; exact e⟩, b⟩
theorem shfL_lt (D : DV) (s f : Nat) : shfL D s f < 16 := by unfold shfL; omega
theorem wfD_shf {D : DV} {T s f : Nat} (h : wfD D T) (hf : f < 16) : wfD (shfD D s f) T := by
  have e0 : ∀ f' i, ¬ f' = 3 → ¬ f' = 4 → shfD D s f f' i = D f' i := fun f' i h3 h4 => by unfold shfD; rw [upF_ne h4, upF_ne h3]
  have ed : dn (shfD D s f) = dn D := by unfold dn; rw [e0 _ _ (by decide) (by decide)]
  refine ⟨by rw [ed, e0 _ _ (by decide) (by decide)]; exact h.1, by rw [ed]; exact h.2.1, fun k hk => ?_, ?_⟩
  · rw [ed] at hk
    have hlt := shfL_lt D s f
    obtain ⟨w1, w2, w3, w4, w5, w6, w7, w8⟩ := h.2.2.1 k hk
    unfold wfS fi la
    rw [e0 5 k (by decide) (by decide), e0 6 k (by decide) (by decide), e0 1 k (by decide) (by decide), e0 2 k (by decide) (by decide)]
    by_cases e : k = s
    · subst e
      have a3 : shfD D k f 3 k = nI f := by unfold shfD; rw [upF_ne (by decide), upF_s]
      have a4 : shfD D k f 4 k = nI (shfL D k f) := by unfold shfD; rw [upF_s]
      rw [a3, a4, nI_clamp (by omega), nI_clamp (by omega)]
      exact ⟨rfl, rfl, by unfold shfL; omega, hlt, w5, w6, w7, w8⟩
    · have a3 : shfD D s f 3 k = D 3 k := by unfold shfD; rw [upF_ne (by decide), upF_nk e]
      have a4 : shfD D s f 4 k = D 4 k := by unfold shfD; rw [upF_nk e, upF_ne (by decide)]
      rw [a3, a4]
      exact ⟨w1, w2, w3, w4, w5, w6, w7, w8⟩
  · rw [e0 _ _ (by decide) (by decide)]; exact h.2.2.2
def T_X6_thread (g : WG) (as : List Value) (M : MM) (Q : Option Value → MM → Prop) : Prop := ∃ s n w, as = [.ref 76, .int s, .int n, .int w] ∧ okM M ∧ zM M ∧ ∀ M', Sm YS M M' → Q (some (.int (thrA (xm M) (dm M) s n w))) M'
set_option maxRecDepth 100000 in
set_option maxHeartbeats 2000000 in
theorem t_X6_thread {l : Launch} {g : WG} (hg : Full g) : Ct l g yX6_thread cX6_thread 8 ((Option.some FieldType.int)) 9 (T_X6_thread g) := by
  refine Ct.of (by decide) (fun as M Q h => ?_) (fun p e s m args below meth c as M Q h C => ?_)
  · obtain ⟨s0, n0, w, rfl, ho, hz, h⟩ := h; exact ⟨by simp, by simp [Value.category]⟩
  · obtain ⟨s0, n0, w, rfl, ho, hz, h⟩ := h
    have hn := ho.n
    have hmany := ho.many
    obtain ⟨Tn, hwf, htx, h9⟩ := id ho
    obtain ⟨I48, hI48⟩ : ∃ I : Nat → PP, I = (fun n lv st M' => ∃ k s nn, s < dn (dm M) ∧ nn ≤ 40 ∧ s0 = nI s ∧ n0 = nI nn ∧ (0 ≤ w ∧ w ≤ 1) ∧ lv = [(0, .ref 76), (1, .int (nI s)), (2, .int (nI nn)), (3, .int w), (4, .int (M 78 s)), (5, .int (thN (xm M) (dm M) s nn k).2), (6, .int (thN (xm M) (dm M) s nn k).1), (7, .int (nI k))] ∧ st = [] ∧ k ≤ 6 ∧ n = 6 - k ∧ Sm (fun a b => YS a b ∨ (a = 78 ∧ b = s)) M M') := ⟨_, rfl⟩
    obtain ⟨E48, hE48⟩ : ∃ E : PP, E = (fun lv st M => ∃ n, I48 n lv st M) := ⟨_, rfl⟩
    have iE48 : ∀ n lv st M, I48 n lv st M → E48 lv st M := fun n lv st M h => by rw [hE48]; exact ⟨n, h⟩
    have L48 : Sj p l e 9 s m args below meth c 8 g (MQ below (cQc g Q) args s 0 0 (gA g)) 48 E48 := by
      rw [hE48]
      refine s_ex (s_loop I48 (fun K48 k48 => WX6_thread_48 C (t_X6_isSeam hg) (by decide) (t_X6_within hg) (by decide) (t_X6_runs hg) (by decide) (t_X6_again hg) (by decide) k48) ?_)
      intro n lv st M1 K48 hK48 hI; rw [hI48] at hI; obtain ⟨k, s, nn, hs, hnn, hse, hne, hw01, rfl, rfl, hk, rfl, hsm⟩ := hI
      unfold BX6_thread_48
      generalize hB68 : BX6_thread_68 g Q (T_X6_isSeam g) (T_X6_within g) (T_X6_runs g) (T_X6_again g) K48 = B68
      generalize hB106 : BX6_thread_106 g Q (T_X6_isSeam g) (T_X6_within g) (T_X6_runs g) (T_X6_again g) K48 = B106
      simp only [T_X6_isSeam, T_X6_within, T_X6_runs, T_X6_again, i_const, i_lconst, i_iload, i_aload, i_lload, i_istore, i_astore, i_lstore, i_iinc, i_bin, i_div, i_un, i_i2l, i_l2i, i_lbin, i_lcmp, i_if, i_icmp, i_dup, i_dup_x1, i_dup2, i_pop, i_geti, i_getr, i_getd, i_puti, i_putz, i_putd, i_iald, i_bald, i_aald, i_iast, i_bast, i_alen, i_keep, i_ret, i_retz, i_reta, i_retl, i_retv, i_callv, i_callk, i_calls, i_mm, i_copy, i_under, i_undld, i_ldcs, i_sw, q_swc0, q_swc1, q_lg0, q_lg1, q_lent0, q_lent1, lset, lset2, q_lins0, q_lins1, q_ldel0, q_ldel1, q_ldel20, q_ldel21, q_lkeep0, q_lkeep1, q_memb0, q_memb1, cat2, Nat.reduceBEq, decide_true, decide_false, decide_eq_true_eq, cond_true, cond_false, Bool.and_true, Bool.and_false, Bool.true_and, Bool.false_and, f_iadd, f_isub, f_imul, f_ishl, f_ishr, f_iushr, f_iand, f_ior, f_idiv, f_irem, f_ineg, f_i2b, f_i2s, f_ladd, f_lmul, c_eq, c_ne, c_lt, c_ge, c_gt, c_le, cc_eq, cc_ne, cc_lt, cc_ge, cc_gt, cc_le, rfo, aof, csum, Value.category, List.take, List.drop, List.reverse, List.reverseAux, List.map, List.sum_cons, List.sum_nil, List.cons_append, List.nil_append, Option.toList, List.mem_cons, List.not_mem_nil, List.length_cons, List.length_nil, reduceIte, Nat.reduceEqDiff, Nat.reduceAdd, Nat.reduceLeDiff, Nat.reduceLT, a_day, Nat.zero_ne_one, Nat.one_ne_zero, false_and, and_false, true_and, and_true, or_false, false_or, or_true, true_or, not_true_eq_false, not_false_eq_true, Nat.zero_add, Nat.add_zero, Nat.le_refl, Nat.lt_irrefl, Nat.zero_lt_succ, Nat.zero_le, forall_const, List.cons.injEq, Value.int.injEq, Value.ref.injEq, Value.long.injEq, and_assoc, exists_and_left, exists_eq_left']
      try simp only [forall_eq]
      have hs7 : s < 7 := by omega
      rw [show (6 : Int32) = nI 6 from rfl, nI_leI (by decide) (by omega), nI_clamp (by omega)]
      refine ⟨fun z => ?_, fun z => ?_⟩
      · have : k = 6 := by omega
        subst this
        subst hB106
        unfold BX6_thread_106
        simp only [T_X6_isSeam, T_X6_within, T_X6_runs, T_X6_again, i_const, i_lconst, i_iload, i_aload, i_lload, i_istore, i_astore, i_lstore, i_iinc, i_bin, i_div, i_un, i_i2l, i_l2i, i_lbin, i_lcmp, i_if, i_icmp, i_dup, i_dup_x1, i_dup2, i_pop, i_geti, i_getr, i_getd, i_puti, i_putz, i_putd, i_iald, i_bald, i_aald, i_iast, i_bast, i_alen, i_keep, i_ret, i_retz, i_reta, i_retl, i_retv, i_callv, i_callk, i_calls, i_mm, i_copy, i_under, i_undld, i_ldcs, i_sw, q_swc0, q_swc1, q_lg0, q_lg1, q_lent0, q_lent1, lset, lset2, q_lins0, q_lins1, q_ldel0, q_ldel1, q_ldel20, q_ldel21, q_lkeep0, q_lkeep1, q_memb0, q_memb1, cat2, Nat.reduceBEq, decide_true, decide_false, decide_eq_true_eq, cond_true, cond_false, Bool.and_true, Bool.and_false, Bool.true_and, Bool.false_and, f_iadd, f_isub, f_imul, f_ishl, f_ishr, f_iushr, f_iand, f_ior, f_idiv, f_irem, f_ineg, f_i2b, f_i2s, f_ladd, f_lmul, c_eq, c_ne, c_lt, c_ge, c_gt, c_le, cc_eq, cc_ne, cc_lt, cc_ge, cc_gt, cc_le, rfo, aof, csum, Value.category, List.take, List.drop, List.reverse, List.reverseAux, List.map, List.sum_cons, List.sum_nil, List.cons_append, List.nil_append, Option.toList, List.mem_cons, List.not_mem_nil, List.length_cons, List.length_nil, reduceIte, Nat.reduceEqDiff, Nat.reduceAdd, Nat.reduceLeDiff, Nat.reduceLT, a_day, Nat.zero_ne_one, Nat.one_ne_zero, false_and, and_false, true_and, and_true, or_false, false_or, or_true, true_or, not_true_eq_false, not_false_eq_true, Nat.zero_add, Nat.add_zero, Nat.le_refl, Nat.lt_irrefl, Nat.zero_lt_succ, Nat.zero_le, forall_const, List.cons.injEq, Value.int.injEq, Value.ref.injEq, Value.long.injEq, and_assoc, exists_and_left, exists_eq_left']
        try simp only [forall_eq]
        rw [nI_clamp (by omega)]
        have hfin := h (mset M1 78 s (M 78 s)) hsm.back
        rw [thrA, if_pos ⟨⟨⟨by rw [hse]; exact nI_pos' (by omega), by rw [hse]; exact (nI_ltI (by omega) (by omega)).mpr hs⟩, ⟨by rw [hne]; exact nI_pos' (by omega), by rw [hne]; exact nI_le (b := 40) hnn (by decide)⟩⟩, hw01⟩, hse, hne, nI_clamp (by omega), nI_clamp (by omega)] at hfin
        unfold sel at hfin
        refine ⟨m_76 hg, m_78 hg, vm l_78 (by omega) (by decide), fun y => ?_, fun y => ?_⟩
        · rwa [if_neg y] at hfin
        · rwa [if_pos (Decidable.not_not.mp y)] at hfin
      · have hk6 : k < 6 := by omega
        obtain ⟨a1, a2, a3, a4⟩ := okM_f (f := 1) (x := nI k) (by decide) (by decide) hs ho (fun T hT => wfD_f hT (by decide) (by decide) ⟨by decide, by decide⟩ (fun _ => ⟨k, hk6, rfl⟩) (fun q => absurd q (by decide)) (fun q => absurd q (by decide)))
        have s1 : Sm YS (mset M (77 + 1) s (nI k)) (mset M1 78 s (nI k)) := hsm.m2 _
        obtain ⟨b1, b2, b3⟩ := keepS s1 a1
        have bz := zM_S s1 (a4 hz)
        refine ⟨m_76 hg, m_78 hg, vm l_78 (by omega) (by decide), (m_76 hg).1, (m_76 hg).2.1, nn, rfl, hnn, b1, bz, fun M2 hs2 hd2 h36 h95 h32 hv => ?_⟩
        subst hB68
        unfold BX6_thread_68
        generalize hB72 : BX6_thread_72 g Q (T_X6_isSeam g) (T_X6_within g) (T_X6_runs g) (T_X6_again g) K48 = B72
        simp only [T_X6_isSeam, T_X6_within, T_X6_runs, T_X6_again, i_const, i_lconst, i_iload, i_aload, i_lload, i_istore, i_astore, i_lstore, i_iinc, i_bin, i_div, i_un, i_i2l, i_l2i, i_lbin, i_lcmp, i_if, i_icmp, i_dup, i_dup_x1, i_dup2, i_pop, i_geti, i_getr, i_getd, i_puti, i_putz, i_putd, i_iald, i_bald, i_aald, i_iast, i_bast, i_alen, i_keep, i_ret, i_retz, i_reta, i_retl, i_retv, i_callv, i_callk, i_calls, i_mm, i_copy, i_under, i_undld, i_ldcs, i_sw, q_swc0, q_swc1, q_lg0, q_lg1, q_lent0, q_lent1, lset, lset2, q_lins0, q_lins1, q_ldel0, q_ldel1, q_ldel20, q_ldel21, q_lkeep0, q_lkeep1, q_memb0, q_memb1, cat2, Nat.reduceBEq, decide_true, decide_false, decide_eq_true_eq, cond_true, cond_false, Bool.and_true, Bool.and_false, Bool.true_and, Bool.false_and, f_iadd, f_isub, f_imul, f_ishl, f_ishr, f_iushr, f_iand, f_ior, f_idiv, f_irem, f_ineg, f_i2b, f_i2s, f_ladd, f_lmul, c_eq, c_ne, c_lt, c_ge, c_gt, c_le, cc_eq, cc_ne, cc_lt, cc_ge, cc_gt, cc_le, rfo, aof, csum, Value.category, List.take, List.drop, List.reverse, List.reverseAux, List.map, List.sum_cons, List.sum_nil, List.cons_append, List.nil_append, Option.toList, List.mem_cons, List.not_mem_nil, List.length_cons, List.length_nil, reduceIte, Nat.reduceEqDiff, Nat.reduceAdd, Nat.reduceLeDiff, Nat.reduceLT, a_day, Nat.zero_ne_one, Nat.one_ne_zero, false_and, and_false, true_and, and_true, or_false, false_or, or_true, true_or, not_true_eq_false, not_false_eq_true, Nat.zero_add, Nat.add_zero, Nat.le_refl, Nat.lt_irrefl, Nat.zero_lt_succ, Nat.zero_le, forall_const, List.cons.injEq, Value.int.injEq, Value.ref.injEq, Value.long.injEq, and_assoc, exists_and_left, exists_eq_left']
        try simp only [forall_eq]
        refine ⟨(m_76 hg).1, (m_76 hg).2.1, fun i hi => by rw [(hv i hi).2]; exact bz i hi, fun M3 hs3 e0 hw => ?_⟩
        have hS := again_S hs2 hs3 e0 h32 hv hw
        have h36' : M3 76 36 = alw (xm M) (upF (dm M) 1 s (nI k)) nn := by rw [hs3 _ _ (by unfold YA; omega), h36, b2, b3, a2, a3]
        have hsm3 : Sm (fun a b => YS a b ∨ (a = 78 ∧ b = s)) M M3 := (hsm.set _ (Or.inr ⟨rfl, rfl⟩)).tr (hS.mono fun a b q => Or.inl q)
        have fin : ∀ x y, (y, x) = thN (xm M) (dm M) s nn (k + 1) → K48 [(0, .ref 76), (1, .int (nI s)), (2, .int (nI nn)), (3, .int w), (4, .int (M 78 s)), (5, .int x), (6, .int y), (7, .int (nI (k + 1)))] [] M3 := by
          intro x y hxy
          refine hK48 (6 - (k + 1)) _ _ _ (by omega) ?_
          rw [hI48]
          exact ⟨k + 1, s, nn, hs, hnn, hse, hne, hw01, by rw [← hxy], rfl, by omega, rfl, hsm3⟩
        have go : ((thN (xm M) (dm M) s nn k).2 = -1 ∨ (thN (xm M) (dm M) s nn k).1 < alw (xm M) (upF (dm M) 1 s (nI k)) nn) → BX6_thread_90 g Q (T_X6_isSeam g) (T_X6_within g) (T_X6_runs g) (T_X6_again g) K48 [(0, .ref 76), (1, .int (nI s)), (2, .int (nI nn)), (3, .int w), (4, .int (M 78 s)), (5, .int (thN (xm M) (dm M) s nn k).2), (6, .int (thN (xm M) (dm M) s nn k).1), (7, .int (nI k))] [] M3 := by
          intro c
          unfold BX6_thread_90
          simp only [i_const, i_lconst, i_iload, i_aload, i_lload, i_istore, i_astore, i_lstore, i_iinc, i_bin, i_div, i_un, i_i2l, i_l2i, i_lbin, i_lcmp, i_if, i_icmp, i_dup, i_dup_x1, i_dup2, i_pop, i_geti, i_getr, i_getd, i_puti, i_putz, i_putd, i_iald, i_bald, i_aald, i_iast, i_bast, i_alen, i_keep, i_ret, i_retz, i_reta, i_retl, i_retv, i_callv, i_callk, i_calls, i_mm, i_copy, i_under, i_undld, i_ldcs, i_sw, q_swc0, q_swc1, q_lg0, q_lg1, q_lent0, q_lent1, lset, lset2, q_lins0, q_lins1, q_ldel0, q_ldel1, q_ldel20, q_ldel21, q_lkeep0, q_lkeep1, q_memb0, q_memb1, cat2, Nat.reduceBEq, decide_true, decide_false, decide_eq_true_eq, cond_true, cond_false, Bool.and_true, Bool.and_false, Bool.true_and, Bool.false_and, f_iadd, f_isub, f_imul, f_ishl, f_ishr, f_iushr, f_iand, f_ior, f_idiv, f_irem, f_ineg, f_i2b, f_i2s, f_ladd, f_lmul, c_eq, c_ne, c_lt, c_ge, c_gt, c_le, cc_eq, cc_ne, cc_lt, cc_ge, cc_gt, cc_le, rfo, aof, csum, Value.category, List.take, List.drop, List.reverse, List.reverseAux, List.map, List.sum_cons, List.sum_nil, List.cons_append, List.nil_append, Option.toList, List.mem_cons, List.not_mem_nil, List.length_cons, List.length_nil, reduceIte, Nat.reduceEqDiff, Nat.reduceAdd, Nat.reduceLeDiff, Nat.reduceLT, a_day, Nat.zero_ne_one, Nat.one_ne_zero, false_and, and_false, true_and, and_true, or_false, false_or, or_true, true_or, not_true_eq_false, not_false_eq_true, Nat.zero_add, Nat.add_zero, Nat.le_refl, Nat.lt_irrefl, Nat.zero_lt_succ, Nat.zero_le, forall_const, List.cons.injEq, Value.int.injEq, Value.ref.injEq, Value.long.injEq, and_assoc, exists_and_left, exists_eq_left', forall_eq]
          rw [h36', nI_1]
          refine ⟨m_76 hg, fin _ _ ?_⟩
          simp only [thN, cup1]; rw [if_pos c]
        subst hB72
        unfold BX6_thread_72
        generalize hB90 : BX6_thread_90 g Q (T_X6_isSeam g) (T_X6_within g) (T_X6_runs g) (T_X6_again g) K48 = B90
        simp only [T_X6_isSeam, T_X6_within, T_X6_runs, T_X6_again, i_const, i_lconst, i_iload, i_aload, i_lload, i_istore, i_astore, i_lstore, i_iinc, i_bin, i_div, i_un, i_i2l, i_l2i, i_lbin, i_lcmp, i_if, i_icmp, i_dup, i_dup_x1, i_dup2, i_pop, i_geti, i_getr, i_getd, i_puti, i_putz, i_putd, i_iald, i_bald, i_aald, i_iast, i_bast, i_alen, i_keep, i_ret, i_retz, i_reta, i_retl, i_retv, i_callv, i_callk, i_calls, i_mm, i_copy, i_under, i_undld, i_ldcs, i_sw, q_swc0, q_swc1, q_lg0, q_lg1, q_lent0, q_lent1, lset, lset2, q_lins0, q_lins1, q_ldel0, q_ldel1, q_ldel20, q_ldel21, q_lkeep0, q_lkeep1, q_memb0, q_memb1, cat2, Nat.reduceBEq, decide_true, decide_false, decide_eq_true_eq, cond_true, cond_false, Bool.and_true, Bool.and_false, Bool.true_and, Bool.false_and, f_iadd, f_isub, f_imul, f_ishl, f_ishr, f_iushr, f_iand, f_ior, f_idiv, f_irem, f_ineg, f_i2b, f_i2s, f_ladd, f_lmul, c_eq, c_ne, c_lt, c_ge, c_gt, c_le, cc_eq, cc_ne, cc_lt, cc_ge, cc_gt, cc_le, rfo, aof, csum, Value.category, List.take, List.drop, List.reverse, List.reverseAux, List.map, List.sum_cons, List.sum_nil, List.cons_append, List.nil_append, Option.toList, List.mem_cons, List.not_mem_nil, List.length_cons, List.length_nil, reduceIte, Nat.reduceEqDiff, Nat.reduceAdd, Nat.reduceLeDiff, Nat.reduceLT, a_day, Nat.zero_ne_one, Nat.one_ne_zero, false_and, and_false, true_and, and_true, or_false, false_or, or_true, true_or, not_true_eq_false, not_false_eq_true, Nat.zero_add, Nat.add_zero, Nat.le_refl, Nat.lt_irrefl, Nat.zero_lt_succ, Nat.zero_le, forall_const, List.cons.injEq, Value.int.injEq, Value.ref.injEq, Value.long.injEq, and_assoc, exists_and_left, exists_eq_left']
        try simp only [forall_eq]
        rw [h36', nI_1]
        refine ⟨fun y => ?_, fun y => ⟨m_76 hg, fun u => ?_, fun u => fin _ _ ?_⟩⟩
        · subst_vars; exact go (Or.inl y)
        · subst_vars; exact go (Or.inr u)
        · simp only [thN, cup1]; rw [if_neg (fun q => q.elim y u)]
    refine s_of (fun lv st M0 hs => ?_) (WX6_thread_0 C (t_X6_isSeam hg) (by decide) (t_X6_within hg) (by decide) (t_X6_runs hg) (by decide) (t_X6_again hg) (by decide) L48)
    obtain ⟨rfl, rfl, rfl⟩ := hs
    unfold BX6_thread_0
    generalize hB5 : BX6_thread_5 g Q (T_X6_isSeam g) (T_X6_within g) (T_X6_runs g) (T_X6_again g) E48 = B5
    simp only [T_X6_isSeam, T_X6_within, T_X6_runs, T_X6_again, i_const, i_lconst, i_iload, i_aload, i_lload, i_istore, i_astore, i_lstore, i_iinc, i_bin, i_div, i_un, i_i2l, i_l2i, i_lbin, i_lcmp, i_if, i_icmp, i_dup, i_dup_x1, i_dup2, i_pop, i_geti, i_getr, i_getd, i_puti, i_putz, i_putd, i_iald, i_bald, i_aald, i_iast, i_bast, i_alen, i_keep, i_ret, i_retz, i_reta, i_retl, i_retv, i_callv, i_callk, i_calls, i_mm, i_copy, i_under, i_undld, i_ldcs, i_sw, q_swc0, q_swc1, q_lg0, q_lg1, q_lent0, q_lent1, lset, lset2, q_lins0, q_lins1, q_ldel0, q_ldel1, q_ldel20, q_ldel21, q_lkeep0, q_lkeep1, q_memb0, q_memb1, cat2, Nat.reduceBEq, decide_true, decide_false, decide_eq_true_eq, cond_true, cond_false, Bool.and_true, Bool.and_false, Bool.true_and, Bool.false_and, f_iadd, f_isub, f_imul, f_ishl, f_ishr, f_iushr, f_iand, f_ior, f_idiv, f_irem, f_ineg, f_i2b, f_i2s, f_ladd, f_lmul, c_eq, c_ne, c_lt, c_ge, c_gt, c_le, cc_eq, cc_ne, cc_lt, cc_ge, cc_gt, cc_le, rfo, aof, csum, Value.category, List.take, List.drop, List.reverse, List.reverseAux, List.map, List.sum_cons, List.sum_nil, List.cons_append, List.nil_append, Option.toList, List.mem_cons, List.not_mem_nil, List.length_cons, List.length_nil, reduceIte, Nat.reduceEqDiff, Nat.reduceAdd, Nat.reduceLeDiff, Nat.reduceLT, a_day, Nat.zero_ne_one, Nat.one_ne_zero, false_and, and_false, true_and, and_true, or_false, false_or, or_true, true_or, not_true_eq_false, not_false_eq_true, Nat.zero_add, Nat.add_zero, Nat.le_refl, Nat.lt_irrefl, Nat.zero_lt_succ, Nat.zero_le, forall_const, List.cons.injEq, Value.int.injEq, Value.ref.injEq, Value.long.injEq, and_assoc, exists_and_left, exists_eq_left']
    try simp only [forall_eq]
    have hf := fun (c1 : ¬ (((0 ≤ s0 ∧ s0 < nI (dn (dm M0))) ∧ (0 ≤ n0 ∧ n0 ≤ 40)) ∧ (0 ≤ w ∧ w ≤ 1))) => by
      have := h M0 Sm.rf
      rwa [thrA, if_neg c1] at this
    refine ⟨(m_76 hg).1, (m_76 hg).2.1, dn (dm M0), by omega, hmany, ?_⟩
    subst hB5
    unfold BX6_thread_5
    generalize hB15 : BX6_thread_15 g Q (T_X6_isSeam g) (T_X6_within g) (T_X6_runs g) (T_X6_again g) E48 = B15
    simp only [T_X6_isSeam, T_X6_within, T_X6_runs, T_X6_again, i_const, i_lconst, i_iload, i_aload, i_lload, i_istore, i_astore, i_lstore, i_iinc, i_bin, i_div, i_un, i_i2l, i_l2i, i_lbin, i_lcmp, i_if, i_icmp, i_dup, i_dup_x1, i_dup2, i_pop, i_geti, i_getr, i_getd, i_puti, i_putz, i_putd, i_iald, i_bald, i_aald, i_iast, i_bast, i_alen, i_keep, i_ret, i_retz, i_reta, i_retl, i_retv, i_callv, i_callk, i_calls, i_mm, i_copy, i_under, i_undld, i_ldcs, i_sw, q_swc0, q_swc1, q_lg0, q_lg1, q_lent0, q_lent1, lset, lset2, q_lins0, q_lins1, q_ldel0, q_ldel1, q_ldel20, q_ldel21, q_lkeep0, q_lkeep1, q_memb0, q_memb1, cat2, Nat.reduceBEq, decide_true, decide_false, decide_eq_true_eq, cond_true, cond_false, Bool.and_true, Bool.and_false, Bool.true_and, Bool.false_and, f_iadd, f_isub, f_imul, f_ishl, f_ishr, f_iushr, f_iand, f_ior, f_idiv, f_irem, f_ineg, f_i2b, f_i2s, f_ladd, f_lmul, c_eq, c_ne, c_lt, c_ge, c_gt, c_le, cc_eq, cc_ne, cc_lt, cc_ge, cc_gt, cc_le, rfo, aof, csum, Value.category, List.take, List.drop, List.reverse, List.reverseAux, List.map, List.sum_cons, List.sum_nil, List.cons_append, List.nil_append, Option.toList, List.mem_cons, List.not_mem_nil, List.length_cons, List.length_nil, reduceIte, Nat.reduceEqDiff, Nat.reduceAdd, Nat.reduceLeDiff, Nat.reduceLT, a_day, Nat.zero_ne_one, Nat.one_ne_zero, false_and, and_false, true_and, and_true, or_false, false_or, or_true, true_or, not_true_eq_false, not_false_eq_true, Nat.zero_add, Nat.add_zero, Nat.le_refl, Nat.lt_irrefl, Nat.zero_lt_succ, Nat.zero_le, forall_const, List.cons.injEq, Value.int.injEq, Value.ref.injEq, Value.long.injEq, and_assoc, exists_and_left, exists_eq_left']
    try simp only [forall_eq]
    refine ⟨fun z => hf (fun q => b2n z q.1.1), fun z1 => ?_⟩
    subst hB15
    unfold BX6_thread_15
    generalize hB24 : BX6_thread_24 g Q (T_X6_isSeam g) (T_X6_within g) (T_X6_runs g) (T_X6_again g) E48 = B24
    simp only [T_X6_isSeam, T_X6_within, T_X6_runs, T_X6_again, i_const, i_lconst, i_iload, i_aload, i_lload, i_istore, i_astore, i_lstore, i_iinc, i_bin, i_div, i_un, i_i2l, i_l2i, i_lbin, i_lcmp, i_if, i_icmp, i_dup, i_dup_x1, i_dup2, i_pop, i_geti, i_getr, i_getd, i_puti, i_putz, i_putd, i_iald, i_bald, i_aald, i_iast, i_bast, i_alen, i_keep, i_ret, i_retz, i_reta, i_retl, i_retv, i_callv, i_callk, i_calls, i_mm, i_copy, i_under, i_undld, i_ldcs, i_sw, q_swc0, q_swc1, q_lg0, q_lg1, q_lent0, q_lent1, lset, lset2, q_lins0, q_lins1, q_ldel0, q_ldel1, q_ldel20, q_ldel21, q_lkeep0, q_lkeep1, q_memb0, q_memb1, cat2, Nat.reduceBEq, decide_true, decide_false, decide_eq_true_eq, cond_true, cond_false, Bool.and_true, Bool.and_false, Bool.true_and, Bool.false_and, f_iadd, f_isub, f_imul, f_ishl, f_ishr, f_iushr, f_iand, f_ior, f_idiv, f_irem, f_ineg, f_i2b, f_i2s, f_ladd, f_lmul, c_eq, c_ne, c_lt, c_ge, c_gt, c_le, cc_eq, cc_ne, cc_lt, cc_ge, cc_gt, cc_le, rfo, aof, csum, Value.category, List.take, List.drop, List.reverse, List.reverseAux, List.map, List.sum_cons, List.sum_nil, List.cons_append, List.nil_append, Option.toList, List.mem_cons, List.not_mem_nil, List.length_cons, List.length_nil, reduceIte, Nat.reduceEqDiff, Nat.reduceAdd, Nat.reduceLeDiff, Nat.reduceLT, a_day, Nat.zero_ne_one, Nat.one_ne_zero, false_and, and_false, true_and, and_true, or_false, false_or, or_true, true_or, not_true_eq_false, not_false_eq_true, Nat.zero_add, Nat.add_zero, Nat.le_refl, Nat.lt_irrefl, Nat.zero_lt_succ, Nat.zero_le, forall_const, List.cons.injEq, Value.int.injEq, Value.ref.injEq, Value.long.injEq, and_assoc, exists_and_left, exists_eq_left']
    try simp only [forall_eq]
    refine ⟨fun z => hf (fun q => b2n z q.1.2), fun z2 => ?_⟩
    subst hB24
    unfold BX6_thread_24
    simp only [T_X6_isSeam, T_X6_within, T_X6_runs, T_X6_again, i_const, i_lconst, i_iload, i_aload, i_lload, i_istore, i_astore, i_lstore, i_iinc, i_bin, i_div, i_un, i_i2l, i_l2i, i_lbin, i_lcmp, i_if, i_icmp, i_dup, i_dup_x1, i_dup2, i_pop, i_geti, i_getr, i_getd, i_puti, i_putz, i_putd, i_iald, i_bald, i_aald, i_iast, i_bast, i_alen, i_keep, i_ret, i_retz, i_reta, i_retl, i_retv, i_callv, i_callk, i_calls, i_mm, i_copy, i_under, i_undld, i_ldcs, i_sw, q_swc0, q_swc1, q_lg0, q_lg1, q_lent0, q_lent1, lset, lset2, q_lins0, q_lins1, q_ldel0, q_ldel1, q_ldel20, q_ldel21, q_lkeep0, q_lkeep1, q_memb0, q_memb1, cat2, Nat.reduceBEq, decide_true, decide_false, decide_eq_true_eq, cond_true, cond_false, Bool.and_true, Bool.and_false, Bool.true_and, Bool.false_and, f_iadd, f_isub, f_imul, f_ishl, f_ishr, f_iushr, f_iand, f_ior, f_idiv, f_irem, f_ineg, f_i2b, f_i2s, f_ladd, f_lmul, c_eq, c_ne, c_lt, c_ge, c_gt, c_le, cc_eq, cc_ne, cc_lt, cc_ge, cc_gt, cc_le, rfo, aof, csum, Value.category, List.take, List.drop, List.reverse, List.reverseAux, List.map, List.sum_cons, List.sum_nil, List.cons_append, List.nil_append, Option.toList, List.mem_cons, List.not_mem_nil, List.length_cons, List.length_nil, reduceIte, Nat.reduceEqDiff, Nat.reduceAdd, Nat.reduceLeDiff, Nat.reduceLT, a_day, Nat.zero_ne_one, Nat.one_ne_zero, false_and, and_false, true_and, and_true, or_false, false_or, or_true, true_or, not_true_eq_false, not_false_eq_true, Nat.zero_add, Nat.add_zero, Nat.le_refl, Nat.lt_irrefl, Nat.zero_lt_succ, Nat.zero_le, forall_const, List.cons.injEq, Value.int.injEq, Value.ref.injEq, Value.long.injEq, and_assoc, exists_and_left, exists_eq_left']
    try simp only [forall_eq]
    refine ⟨fun z3 => ?_, fun z => hf (fun q => b2n (Decidable.not_not.mp z) q.2)⟩
    obtain ⟨c1a, c1b⟩ := b2t z1
    obtain ⟨c2a, c2b⟩ := b2t z2
    obtain ⟨s, hs31, hse⟩ := nI_of (i_not_lt.mpr c1a)
    obtain ⟨nn, hn31, hne⟩ := nI_of (i_not_lt.mpr c2a)
    rw [hse] at c1b
    have hs : s < dn (dm M0) := (nI_ltI hs31 (by omega)).mp c1b
    rw [hne] at c2b
    have hnn : nn ≤ 40 := (nI_leI (b := 40) hn31 (by decide)).mp c2b
    rw [hse, nI_clamp hs31]
    refine ⟨m_76 hg, m_78 hg, vm l_78 (by omega) (by decide), iE48 (6 - 0) _ _ _ ?_⟩
    rw [hI48]
    exact ⟨0, s, nn, hs, hnn, hse, hne, b2t z3, by rw [← hne]; rfl, rfl, by omega, rfl, Sm.rf⟩
def T_X6_shifts (g : WG) (as : List Value) (M : MM) (Q : Option Value → MM → Prop) : Prop := ∃ s f n, as = [.ref 76, .int (nI s), .int (nI f), .int (nI n)] ∧ s < 7 ∧ f < 16 ∧ 0 < n ∧ n < 17 ∧ Q none (mset (mset M 80 s (nI f)) 81 s (nI (min 15 (f + (n - 1)))))
set_option maxRecDepth 100000 in
set_option maxHeartbeats 1000000 in
theorem t_X6_shifts {l : Launch} {g : WG} (hg : Full g) : Ct l g yX6_shifts cX6_shifts 4 ((Option.none : Option FieldType)) 2 (T_X6_shifts g) := by
  refine Ct.of (by decide) (fun as M Q h => ?_) (fun p e s m args below meth c as M Q h C => ?_)
  · obtain ⟨s0, f, n, rfl, hs, hf, hn0, hn, h⟩ := h; exact ⟨by simp, by simp [Value.category]⟩
  · obtain ⟨s0, f, n, rfl, hs, hf, hn0, hn, h⟩ := h
    refine s_of (fun lv st M0 hs => ?_) (WX6_shifts_0 C (t_X6_bound hg) (by decide))
    obtain ⟨rfl, rfl, rfl⟩ := hs
    unfold BX6_shifts_0
    simp only [T_X6_bound, i_const, i_lconst, i_iload, i_aload, i_lload, i_istore, i_astore, i_lstore, i_iinc, i_bin, i_div, i_un, i_i2l, i_l2i, i_lbin, i_lcmp, i_if, i_icmp, i_dup, i_dup_x1, i_dup2, i_pop, i_geti, i_getr, i_getd, i_puti, i_putz, i_putd, i_iald, i_bald, i_aald, i_iast, i_bast, i_alen, i_keep, i_ret, i_retz, i_reta, i_retl, i_retv, i_callv, i_callk, i_calls, i_mm, i_copy, i_under, i_undld, i_ldcs, i_sw, q_swc0, q_swc1, q_lg0, q_lg1, q_lent0, q_lent1, lset, lset2, q_lins0, q_lins1, q_ldel0, q_ldel1, q_ldel20, q_ldel21, q_lkeep0, q_lkeep1, q_memb0, q_memb1, cat2, Nat.reduceBEq, decide_true, decide_false, decide_eq_true_eq, cond_true, cond_false, Bool.and_true, Bool.and_false, Bool.true_and, Bool.false_and, f_iadd, f_isub, f_imul, f_ishl, f_ishr, f_iushr, f_iand, f_ior, f_idiv, f_irem, f_ineg, f_i2b, f_i2s, f_ladd, f_lmul, c_eq, c_ne, c_lt, c_ge, c_gt, c_le, cc_eq, cc_ne, cc_lt, cc_ge, cc_gt, cc_le, rfo, aof, csum, Value.category, List.take, List.drop, List.reverse, List.reverseAux, List.map, List.sum_cons, List.sum_nil, List.cons_append, List.nil_append, Option.toList, List.mem_cons, List.not_mem_nil, List.length_cons, List.length_nil, reduceIte, Nat.reduceEqDiff, Nat.reduceAdd, Nat.reduceLeDiff, Nat.reduceLT, a_day, Nat.zero_ne_one, Nat.one_ne_zero, false_and, and_false, true_and, and_true, or_false, false_or, or_true, true_or, not_true_eq_false, not_false_eq_true, Nat.zero_add, Nat.add_zero, Nat.le_refl, Nat.lt_irrefl, Nat.zero_lt_succ, Nat.zero_le, forall_const, List.cons.injEq, Value.int.injEq, Value.ref.injEq, Value.long.injEq, and_assoc, exists_and_left, exists_eq_left']
    try simp only [forall_eq]
    have e : bnd (nI f + nI n - 1) 15 = nI (min 15 (f + (n - 1))) := by
      obtain ⟨n2, rfl⟩ : ∃ n2, n = n2 + 1 := ⟨n - 1, by omega⟩
      rw [nI_add, show f + (n2 + 1) = (f + n2) + 1 by omega, nI_pred]
      unfold bnd
      rw [if_neg (nI_pos (by omega)), show (15 : Int32) = nI 15 from rfl]
      simp only [nI_ltI (a := 15) (b := f + n2) (by decide) (by omega)]
      split
      · rw [show min 15 (f + (n2 + 1 - 1)) = 15 by omega]
      · rw [show min 15 (f + (n2 + 1 - 1)) = f + n2 by omega]
    rw [e, nI_clamp (by omega)]
    exact ⟨m_76 hg, m_80 hg, vm l_80 hs (by decide), m_76 hg, m_81 hg, vm l_81 hs (by decide), h⟩
/-- the model with a seam begun elsewhere -/
theorem okM_shf {M : MM} {s f : Nat} (hs : s < dn (dm M)) (hf : f < 16) (ho : okM M) : okM (mset (mset M 80 s (nI f)) 81 s (nI (shfL (dm M) s f))) ∧ dm (mset (mset M 80 s (nI f)) 81 s (nI (shfL (dm M) s f))) = shfD (dm M) s f ∧ xm (mset (mset M 80 s (nI f)) 81 s (nI (shfL (dm M) s f))) = xm M ∧ (zM M → zM (mset (mset M 80 s (nI f)) 81 s (nI (shfL (dm M) s f)))) := by
  have d1 : dm (mset M 80 s (nI f)) = upF (dm M) 3 s (nI f) := dm_set (f := 3) (by decide) (by decide) hs
  have hs1 : s < dn (dm (mset M 80 s (nI f))) := by rw [d1]; unfold dn; rw [upF_ne (by decide)]; exact hs
  have d2 : dm (mset (mset M 80 s (nI f)) 81 s (nI (shfL (dm M) s f))) = shfD (dm M) s f := by
    rw [dm_set (f := 4) (by decide) (by decide) hs1, d1]; rfl
  obtain ⟨T, hwf, htx, h9⟩ := ho
  obtain ⟨a, b⟩ := okM.to (Y := fun a b => a = 80 ∨ a = 81) ((Sm.rf.set (nI f) (Or.inl rfl)).set _ (Or.inr rfl)) d2 (wfD_shf hwf hf) htx h9 (by omega) (fun a b _ _ => by omega)
  exact ⟨a, d2, b, fun hz k hk => by rw [ms_q (by decide), ms_q (by decide)]; exact hz k hk⟩
/-- both ends of a seam laid anew -/
theorem Sm.e2 {Y : Nat → Nat → Prop} {M M1 : MM} {s : Nat} (x y : Int32) (h : Sm (fun a b => Y a b ∨ ((a = 80 ∨ a = 81) ∧ b = s)) M M1) : Sm Y (mset (mset M 80 s x) 81 s y) (mset (mset M1 80 s x) 81 s y) := by
  refine Sm.m2 y (Y := Y) (Sm.m2 x (Y := fun a b => Y a b ∨ (a = 81 ∧ b = s)) (h.mono fun a b q => ?_))
  rcases q with q | ⟨q | q, r⟩
  · exact Or.inl (Or.inl q)
  · exact Or.inr ⟨q, r⟩
  · exact Or.inl (Or.inr ⟨q, r⟩)
theorem mset_id (M : MM) (q j : Nat) : mset M q j (M q j) = M := by
  funext a b; rw [mset_app]; split
  · next e => split
              · next e2 => rw [e, e2]
              · rfl
  · rfl
theorem Sm.e2b {Y : Nat → Nat → Prop} {M M1 : MM} {s : Nat} {x y : Int32} (hx : M 80 s = x) (hy : M 81 s = y) (h : Sm (fun a b => Y a b ∨ ((a = 80 ∨ a = 81) ∧ b = s)) M M1) : Sm Y M (mset (mset M1 80 s x) 81 s y) := by
  have := h.e2 x y
  subst hx
  subst hy
  rw [mset_id, mset_id] at this
  exact this
def T_X6_move (g : WG) (as : List Value) (M : MM) (Q : Option Value → MM → Prop) : Prop := ∃ s w, as = [.ref 76, .int s, .int w] ∧ okM M ∧ ∀ M', Sm YL M M' → Q (some (.int (mvA (xm M) (dm M) s w))) M'
set_option maxRecDepth 100000 in
set_option maxHeartbeats 2000000 in
theorem t_X6_move {l : Launch} {g : WG} (hg : Full g) : Ct l g yX6_move cX6_move 9 ((Option.some FieldType.int)) 8 (T_X6_move g) := by
  refine Ct.of (by decide) (fun as M Q h => ?_) (fun p e s m args below meth c as M Q h C => ?_)
  · obtain ⟨s0, w, rfl, ho, h⟩ := h; exact ⟨by simp, by simp [Value.category]⟩
  · obtain ⟨s0, w, rfl, ho, h⟩ := h
    have hn := ho.n
    have hmany := ho.many
    have key : ∀ s, s < dn (dm M) → M 80 s = nI (fi (dm M) s) ∧ M 81 s = nI (la (dm M) s) ∧ fi (dm M) s ≤ la (dm M) s ∧ la (dm M) s < 16 := fun s hs => by
      obtain ⟨w1, w2, w3, w4, -⟩ := ho.seam hs
      exact ⟨by rw [← w1, ← dm_s 3 (by decide) (by decide) hs], by rw [← w2, ← dm_s 4 (by decide) (by decide) hs], w3, w4⟩
    obtain ⟨I44, hI44⟩ : ∃ I : Nat → PP, I = (fun n lv st M' => ∃ k s, s < dn (dm M) ∧ s0 = nI s ∧ (0 ≤ w ∧ w ≤ 1) ∧ lv = [(0, .ref 76), (1, .int (nI s)), (2, .int w), (3, .int (nI (fi (dm M) s))), (4, .int (nI (la (dm M) s - fi (dm M) s + 1))), (5, .int (mvN (xm M) (dm M) s k).2), (6, .int (mvN (xm M) (dm M) s k).1), (7, .int (nI k))] ∧ st = [] ∧ k ≤ 16 ∧ n = 16 - k ∧ Sm (fun a b => YL a b ∨ ((a = 80 ∨ a = 81) ∧ b = s)) M M') := ⟨_, rfl⟩
    obtain ⟨E44, hE44⟩ : ∃ E : PP, E = (fun lv st M => ∃ n, I44 n lv st M) := ⟨_, rfl⟩
    have iE44 : ∀ n lv st M, I44 n lv st M → E44 lv st M := fun n lv st M h => by rw [hE44]; exact ⟨n, h⟩
    have L44 : Sj p l e 8 s m args below meth c 9 g (MQ below (cQc g Q) args s 0 0 (gA g)) 44 E44 := by
      rw [hE44]
      refine s_ex (s_loop I44 (fun K44 k44 => WX6_move_44 C (t_X6_isSeam hg) (by decide) (t_X6_within hg) (by decide) (t_X6_lengthOf hg) (by decide) (t_X6_shifts hg) (by decide) (t_X6_worth hg) (by decide) k44) ?_)
      intro n lv st M1 K44 hK44 hI; rw [hI44] at hI; obtain ⟨k, s, hs, hse, hw01, rfl, rfl, hk, rfl, hsm⟩ := hI
      unfold BX6_move_44
      generalize hB60 : BX6_move_60 g Q (T_X6_isSeam g) (T_X6_within g) (T_X6_lengthOf g) (T_X6_shifts g) (T_X6_worth g) K44 = B60
      generalize hB96 : BX6_move_96 g Q (T_X6_isSeam g) (T_X6_within g) (T_X6_lengthOf g) (T_X6_shifts g) (T_X6_worth g) K44 = B96
      simp only [T_X6_isSeam, T_X6_within, T_X6_lengthOf, T_X6_shifts, T_X6_worth, i_const, i_lconst, i_iload, i_aload, i_lload, i_istore, i_astore, i_lstore, i_iinc, i_bin, i_div, i_un, i_i2l, i_l2i, i_lbin, i_lcmp, i_if, i_icmp, i_dup, i_dup_x1, i_dup2, i_pop, i_geti, i_getr, i_getd, i_puti, i_putz, i_putd, i_iald, i_bald, i_aald, i_iast, i_bast, i_alen, i_keep, i_ret, i_retz, i_reta, i_retl, i_retv, i_callv, i_callk, i_calls, i_mm, i_copy, i_under, i_undld, i_ldcs, i_sw, q_swc0, q_swc1, q_lg0, q_lg1, q_lent0, q_lent1, lset, lset2, q_lins0, q_lins1, q_ldel0, q_ldel1, q_ldel20, q_ldel21, q_lkeep0, q_lkeep1, q_memb0, q_memb1, cat2, Nat.reduceBEq, decide_true, decide_false, decide_eq_true_eq, cond_true, cond_false, Bool.and_true, Bool.and_false, Bool.true_and, Bool.false_and, f_iadd, f_isub, f_imul, f_ishl, f_ishr, f_iushr, f_iand, f_ior, f_idiv, f_irem, f_ineg, f_i2b, f_i2s, f_ladd, f_lmul, c_eq, c_ne, c_lt, c_ge, c_gt, c_le, cc_eq, cc_ne, cc_lt, cc_ge, cc_gt, cc_le, rfo, aof, csum, Value.category, List.take, List.drop, List.reverse, List.reverseAux, List.map, List.sum_cons, List.sum_nil, List.cons_append, List.nil_append, Option.toList, List.mem_cons, List.not_mem_nil, List.length_cons, List.length_nil, reduceIte, Nat.reduceEqDiff, Nat.reduceAdd, Nat.reduceLeDiff, Nat.reduceLT, a_day, Nat.zero_ne_one, Nat.one_ne_zero, false_and, and_false, true_and, and_true, or_false, false_or, or_true, true_or, not_true_eq_false, not_false_eq_true, Nat.zero_add, Nat.add_zero, Nat.le_refl, Nat.lt_irrefl, Nat.zero_lt_succ, Nat.zero_le, forall_const, List.cons.injEq, Value.int.injEq, Value.ref.injEq, Value.long.injEq, and_assoc, exists_and_left, exists_eq_left']
      try simp only [forall_eq]
      obtain ⟨k1, k2, k3, k4⟩ := key s hs
      rw [show (16 : Int32) = nI 16 from rfl, nI_leI (by decide) (by omega)]
      refine ⟨fun z => ?_, fun z => ?_⟩
      · have : k = 16 := by omega
        subst this
        subst hB96
        unfold BX6_move_96
        generalize hB104 : BX6_move_104 g Q (T_X6_isSeam g) (T_X6_within g) (T_X6_lengthOf g) (T_X6_shifts g) (T_X6_worth g) K44 = B104
        simp only [T_X6_isSeam, T_X6_within, T_X6_lengthOf, T_X6_shifts, T_X6_worth, i_const, i_lconst, i_iload, i_aload, i_lload, i_istore, i_astore, i_lstore, i_iinc, i_bin, i_div, i_un, i_i2l, i_l2i, i_lbin, i_lcmp, i_if, i_icmp, i_dup, i_dup_x1, i_dup2, i_pop, i_geti, i_getr, i_getd, i_puti, i_putz, i_putd, i_iald, i_bald, i_aald, i_iast, i_bast, i_alen, i_keep, i_ret, i_retz, i_reta, i_retl, i_retv, i_callv, i_callk, i_calls, i_mm, i_copy, i_under, i_undld, i_ldcs, i_sw, q_swc0, q_swc1, q_lg0, q_lg1, q_lent0, q_lent1, lset, lset2, q_lins0, q_lins1, q_ldel0, q_ldel1, q_ldel20, q_ldel21, q_lkeep0, q_lkeep1, q_memb0, q_memb1, cat2, Nat.reduceBEq, decide_true, decide_false, decide_eq_true_eq, cond_true, cond_false, Bool.and_true, Bool.and_false, Bool.true_and, Bool.false_and, f_iadd, f_isub, f_imul, f_ishl, f_ishr, f_iushr, f_iand, f_ior, f_idiv, f_irem, f_ineg, f_i2b, f_i2s, f_ladd, f_lmul, c_eq, c_ne, c_lt, c_ge, c_gt, c_le, cc_eq, cc_ne, cc_lt, cc_ge, cc_gt, cc_le, rfo, aof, csum, Value.category, List.take, List.drop, List.reverse, List.reverseAux, List.map, List.sum_cons, List.sum_nil, List.cons_append, List.nil_append, Option.toList, List.mem_cons, List.not_mem_nil, List.length_cons, List.length_nil, reduceIte, Nat.reduceEqDiff, Nat.reduceAdd, Nat.reduceLeDiff, Nat.reduceLT, a_day, Nat.zero_ne_one, Nat.one_ne_zero, false_and, and_false, true_and, and_true, or_false, false_or, or_true, true_or, not_true_eq_false, not_false_eq_true, Nat.zero_add, Nat.add_zero, Nat.le_refl, Nat.lt_irrefl, Nat.zero_lt_succ, Nat.zero_le, forall_const, List.cons.injEq, Value.int.injEq, Value.ref.injEq, Value.long.injEq, and_assoc, exists_and_left, exists_eq_left']
        try simp only [forall_eq]
        refine ⟨(m_76 hg).1, (m_76 hg).2.1, s, rfl, fi (dm M) s, rfl, la (dm M) s - fi (dm M) s + 1, rfl, by omega, by omega, by omega, by omega, ?_⟩
        subst hB104
        unfold BX6_move_104
        simp only [T_X6_isSeam, T_X6_within, T_X6_lengthOf, T_X6_shifts, T_X6_worth, i_const, i_lconst, i_iload, i_aload, i_lload, i_istore, i_astore, i_lstore, i_iinc, i_bin, i_div, i_un, i_i2l, i_l2i, i_lbin, i_lcmp, i_if, i_icmp, i_dup, i_dup_x1, i_dup2, i_pop, i_geti, i_getr, i_getd, i_puti, i_putz, i_putd, i_iald, i_bald, i_aald, i_iast, i_bast, i_alen, i_keep, i_ret, i_retz, i_reta, i_retl, i_retv, i_callv, i_callk, i_calls, i_mm, i_copy, i_under, i_undld, i_ldcs, i_sw, q_swc0, q_swc1, q_lg0, q_lg1, q_lent0, q_lent1, lset, lset2, q_lins0, q_lins1, q_ldel0, q_ldel1, q_ldel20, q_ldel21, q_lkeep0, q_lkeep1, q_memb0, q_memb1, cat2, Nat.reduceBEq, decide_true, decide_false, decide_eq_true_eq, cond_true, cond_false, Bool.and_true, Bool.and_false, Bool.true_and, Bool.false_and, f_iadd, f_isub, f_imul, f_ishl, f_ishr, f_iushr, f_iand, f_ior, f_idiv, f_irem, f_ineg, f_i2b, f_i2s, f_ladd, f_lmul, c_eq, c_ne, c_lt, c_ge, c_gt, c_le, cc_eq, cc_ne, cc_lt, cc_ge, cc_gt, cc_le, rfo, aof, csum, Value.category, List.take, List.drop, List.reverse, List.reverseAux, List.map, List.sum_cons, List.sum_nil, List.cons_append, List.nil_append, Option.toList, List.mem_cons, List.not_mem_nil, List.length_cons, List.length_nil, reduceIte, Nat.reduceEqDiff, Nat.reduceAdd, Nat.reduceLeDiff, Nat.reduceLT, a_day, Nat.zero_ne_one, Nat.one_ne_zero, false_and, and_false, true_and, and_true, or_false, false_or, or_true, true_or, not_true_eq_false, not_false_eq_true, Nat.zero_add, Nat.add_zero, Nat.le_refl, Nat.lt_irrefl, Nat.zero_lt_succ, Nat.zero_le, forall_const, List.cons.injEq, Value.int.injEq, Value.ref.injEq, Value.long.injEq, and_assoc, exists_and_left, exists_eq_left']
        try simp only [forall_eq]
        have hmin : min 15 (fi (dm M) s + (la (dm M) s - fi (dm M) s + 1 - 1)) = la (dm M) s := by omega
        rw [hmin]
        have hfin := h _ (hsm.e2b k1 k2)
        rw [mvA, if_pos ⟨⟨by rw [hse]; exact nI_pos' (by omega), by rw [hse]; exact (nI_ltI (by omega) (by omega)).mpr hs⟩, hw01⟩, hse, nI_clamp (by omega)] at hfin
        unfold sel at hfin
        refine ⟨fun y => ?_, fun y => ?_⟩
        · rwa [if_neg y] at hfin
        · rwa [if_pos (Decidable.not_not.mp y)] at hfin
      · have hk16 : k < 16 := by omega
        obtain ⟨a1, a2, a3, a4⟩ := okM_shf hs hk16 ho
        have hL : shfL (dm M) s k = min 15 (k + (la (dm M) s - fi (dm M) s + 1 - 1)) := by unfold shfL; omega
        refine ⟨(m_76 hg).1, (m_76 hg).2.1, s, rfl, k, rfl, la (dm M) s - fi (dm M) s + 1, rfl, by omega, by omega, by omega, by omega, ?_⟩
        rw [← hL]
        have s1 := hsm.e2 (nI k) (nI (shfL (dm M) s k))
        obtain ⟨b1, b2, b3⟩ := keepM s1 YL88 a1
        subst hB60
        unfold BX6_move_60
        generalize hB64 : BX6_move_64 g Q (T_X6_isSeam g) (T_X6_within g) (T_X6_lengthOf g) (T_X6_shifts g) (T_X6_worth g) K44 = B64
        simp only [T_X6_isSeam, T_X6_within, T_X6_lengthOf, T_X6_shifts, T_X6_worth, i_const, i_lconst, i_iload, i_aload, i_lload, i_istore, i_astore, i_lstore, i_iinc, i_bin, i_div, i_un, i_i2l, i_l2i, i_lbin, i_lcmp, i_if, i_icmp, i_dup, i_dup_x1, i_dup2, i_pop, i_geti, i_getr, i_getd, i_puti, i_putz, i_putd, i_iald, i_bald, i_aald, i_iast, i_bast, i_alen, i_keep, i_ret, i_retz, i_reta, i_retl, i_retv, i_callv, i_callk, i_calls, i_mm, i_copy, i_under, i_undld, i_ldcs, i_sw, q_swc0, q_swc1, q_lg0, q_lg1, q_lent0, q_lent1, lset, lset2, q_lins0, q_lins1, q_ldel0, q_ldel1, q_ldel20, q_ldel21, q_lkeep0, q_lkeep1, q_memb0, q_memb1, cat2, Nat.reduceBEq, decide_true, decide_false, decide_eq_true_eq, cond_true, cond_false, Bool.and_true, Bool.and_false, Bool.true_and, Bool.false_and, f_iadd, f_isub, f_imul, f_ishl, f_ishr, f_iushr, f_iand, f_ior, f_idiv, f_irem, f_ineg, f_i2b, f_i2s, f_ladd, f_lmul, c_eq, c_ne, c_lt, c_ge, c_gt, c_le, cc_eq, cc_ne, cc_lt, cc_ge, cc_gt, cc_le, rfo, aof, csum, Value.category, List.take, List.drop, List.reverse, List.reverseAux, List.map, List.sum_cons, List.sum_nil, List.cons_append, List.nil_append, Option.toList, List.mem_cons, List.not_mem_nil, List.length_cons, List.length_nil, reduceIte, Nat.reduceEqDiff, Nat.reduceAdd, Nat.reduceLeDiff, Nat.reduceLT, a_day, Nat.zero_ne_one, Nat.one_ne_zero, false_and, and_false, true_and, and_true, or_false, false_or, or_true, true_or, not_true_eq_false, not_false_eq_true, Nat.zero_add, Nat.add_zero, Nat.le_refl, Nat.lt_irrefl, Nat.zero_lt_succ, Nat.zero_le, forall_const, List.cons.injEq, Value.int.injEq, Value.ref.injEq, Value.long.injEq, and_assoc, exists_and_left, exists_eq_left']
        try simp only [forall_eq]
        refine ⟨(m_76 hg).1, (m_76 hg).2.1, b1, fun M3 hs3 hl3 => ?_⟩
        rw [b2, b3, a2, a3]
        have hsm3 : Sm (fun a b => YL a b ∨ ((a = 80 ∨ a = 81) ∧ b = s)) M M3 := ((hsm.set _ (Or.inr ⟨Or.inl rfl, rfl⟩)).set _ (Or.inr ⟨Or.inr rfl, rfl⟩)).tr (hs3.mono fun a b q => Or.inl q)
        have fin : ∀ x y, (y, x) = mvN (xm M) (dm M) s (k + 1) → K44 [(0, .ref 76), (1, .int (nI s)), (2, .int w), (3, .int (nI (fi (dm M) s))), (4, .int (nI (la (dm M) s - fi (dm M) s + 1))), (5, .int x), (6, .int y), (7, .int (nI (k + 1)))] [] M3 := by
          intro x y hxy
          refine hK44 (16 - (k + 1)) _ _ _ (by omega) ?_
          rw [hI44]
          exact ⟨k + 1, s, hs, hse, hw01, by rw [← hxy], rfl, by omega, rfl, hsm3⟩
        have go : ((mvN (xm M) (dm M) s k).2 = -1 ∨ (mvN (xm M) (dm M) s k).1 < wor (xm M) (shfD (dm M) s k)) → BX6_move_82 g Q (T_X6_isSeam g) (T_X6_within g) (T_X6_lengthOf g) (T_X6_shifts g) (T_X6_worth g) K44 [(0, .ref 76), (1, .int (nI s)), (2, .int w), (3, .int (nI (fi (dm M) s))), (4, .int (nI (la (dm M) s - fi (dm M) s + 1))), (5, .int (mvN (xm M) (dm M) s k).2), (6, .int (mvN (xm M) (dm M) s k).1), (7, .int (nI k)), (8, .int (wor (xm M) (shfD (dm M) s k)))] [] M3 := by
          intro c
          unfold BX6_move_82
          simp only [i_const, i_lconst, i_iload, i_aload, i_lload, i_istore, i_astore, i_lstore, i_iinc, i_bin, i_div, i_un, i_i2l, i_l2i, i_lbin, i_lcmp, i_if, i_icmp, i_dup, i_dup_x1, i_dup2, i_pop, i_geti, i_getr, i_getd, i_puti, i_putz, i_putd, i_iald, i_bald, i_aald, i_iast, i_bast, i_alen, i_keep, i_ret, i_retz, i_reta, i_retl, i_retv, i_callv, i_callk, i_calls, i_mm, i_copy, i_under, i_undld, i_ldcs, i_sw, q_swc0, q_swc1, q_lg0, q_lg1, q_lent0, q_lent1, lset, lset2, q_lins0, q_lins1, q_ldel0, q_ldel1, q_ldel20, q_ldel21, q_lkeep0, q_lkeep1, q_memb0, q_memb1, cat2, Nat.reduceBEq, decide_true, decide_false, decide_eq_true_eq, cond_true, cond_false, Bool.and_true, Bool.and_false, Bool.true_and, Bool.false_and, f_iadd, f_isub, f_imul, f_ishl, f_ishr, f_iushr, f_iand, f_ior, f_idiv, f_irem, f_ineg, f_i2b, f_i2s, f_ladd, f_lmul, c_eq, c_ne, c_lt, c_ge, c_gt, c_le, cc_eq, cc_ne, cc_lt, cc_ge, cc_gt, cc_le, rfo, aof, csum, Value.category, List.take, List.drop, List.reverse, List.reverseAux, List.map, List.sum_cons, List.sum_nil, List.cons_append, List.nil_append, Option.toList, List.mem_cons, List.not_mem_nil, List.length_cons, List.length_nil, reduceIte, Nat.reduceEqDiff, Nat.reduceAdd, Nat.reduceLeDiff, Nat.reduceLT, a_day, Nat.zero_ne_one, Nat.one_ne_zero, false_and, and_false, true_and, and_true, or_false, false_or, or_true, true_or, not_true_eq_false, not_false_eq_true, Nat.zero_add, Nat.add_zero, Nat.le_refl, Nat.lt_irrefl, Nat.zero_lt_succ, Nat.zero_le, forall_const, List.cons.injEq, Value.int.injEq, Value.ref.injEq, Value.long.injEq, and_assoc, exists_and_left, exists_eq_left', forall_eq]
          rw [nI_1]
          refine fin _ _ ?_
          simp only [mvN, cup1]; rw [if_pos c]
        subst hB64
        unfold BX6_move_64
        generalize hB82 : BX6_move_82 g Q (T_X6_isSeam g) (T_X6_within g) (T_X6_lengthOf g) (T_X6_shifts g) (T_X6_worth g) K44 = B82
        simp only [T_X6_isSeam, T_X6_within, T_X6_lengthOf, T_X6_shifts, T_X6_worth, i_const, i_lconst, i_iload, i_aload, i_lload, i_istore, i_astore, i_lstore, i_iinc, i_bin, i_div, i_un, i_i2l, i_l2i, i_lbin, i_lcmp, i_if, i_icmp, i_dup, i_dup_x1, i_dup2, i_pop, i_geti, i_getr, i_getd, i_puti, i_putz, i_putd, i_iald, i_bald, i_aald, i_iast, i_bast, i_alen, i_keep, i_ret, i_retz, i_reta, i_retl, i_retv, i_callv, i_callk, i_calls, i_mm, i_copy, i_under, i_undld, i_ldcs, i_sw, q_swc0, q_swc1, q_lg0, q_lg1, q_lent0, q_lent1, lset, lset2, q_lins0, q_lins1, q_ldel0, q_ldel1, q_ldel20, q_ldel21, q_lkeep0, q_lkeep1, q_memb0, q_memb1, cat2, Nat.reduceBEq, decide_true, decide_false, decide_eq_true_eq, cond_true, cond_false, Bool.and_true, Bool.and_false, Bool.true_and, Bool.false_and, f_iadd, f_isub, f_imul, f_ishl, f_ishr, f_iushr, f_iand, f_ior, f_idiv, f_irem, f_ineg, f_i2b, f_i2s, f_ladd, f_lmul, c_eq, c_ne, c_lt, c_ge, c_gt, c_le, cc_eq, cc_ne, cc_lt, cc_ge, cc_gt, cc_le, rfo, aof, csum, Value.category, List.take, List.drop, List.reverse, List.reverseAux, List.map, List.sum_cons, List.sum_nil, List.cons_append, List.nil_append, Option.toList, List.mem_cons, List.not_mem_nil, List.length_cons, List.length_nil, reduceIte, Nat.reduceEqDiff, Nat.reduceAdd, Nat.reduceLeDiff, Nat.reduceLT, a_day, Nat.zero_ne_one, Nat.one_ne_zero, false_and, and_false, true_and, and_true, or_false, false_or, or_true, true_or, not_true_eq_false, not_false_eq_true, Nat.zero_add, Nat.add_zero, Nat.le_refl, Nat.lt_irrefl, Nat.zero_lt_succ, Nat.zero_le, forall_const, List.cons.injEq, Value.int.injEq, Value.ref.injEq, Value.long.injEq, and_assoc, exists_and_left, exists_eq_left']
        try simp only [forall_eq]
        rw [nI_1]
        refine ⟨fun y => ?_, fun y => ⟨fun u => ?_, fun u => fin _ _ ?_⟩⟩
        · subst_vars; exact go (Or.inl y)
        · subst_vars; exact go (Or.inr u)
        · simp only [mvN, cup1]; rw [if_neg (fun q => q.elim y u)]
      
    refine s_of (fun lv st M0 hs => ?_) (WX6_move_0 C (t_X6_isSeam hg) (by decide) (t_X6_within hg) (by decide) (t_X6_lengthOf hg) (by decide) (t_X6_shifts hg) (by decide) (t_X6_worth hg) (by decide) L44)
    obtain ⟨rfl, rfl, rfl⟩ := hs
    unfold BX6_move_0
    generalize hB5 : BX6_move_5 g Q (T_X6_isSeam g) (T_X6_within g) (T_X6_lengthOf g) (T_X6_shifts g) (T_X6_worth g) E44 = B5
    simp only [T_X6_isSeam, T_X6_within, T_X6_lengthOf, T_X6_shifts, T_X6_worth, i_const, i_lconst, i_iload, i_aload, i_lload, i_istore, i_astore, i_lstore, i_iinc, i_bin, i_div, i_un, i_i2l, i_l2i, i_lbin, i_lcmp, i_if, i_icmp, i_dup, i_dup_x1, i_dup2, i_pop, i_geti, i_getr, i_getd, i_puti, i_putz, i_putd, i_iald, i_bald, i_aald, i_iast, i_bast, i_alen, i_keep, i_ret, i_retz, i_reta, i_retl, i_retv, i_callv, i_callk, i_calls, i_mm, i_copy, i_under, i_undld, i_ldcs, i_sw, q_swc0, q_swc1, q_lg0, q_lg1, q_lent0, q_lent1, lset, lset2, q_lins0, q_lins1, q_ldel0, q_ldel1, q_ldel20, q_ldel21, q_lkeep0, q_lkeep1, q_memb0, q_memb1, cat2, Nat.reduceBEq, decide_true, decide_false, decide_eq_true_eq, cond_true, cond_false, Bool.and_true, Bool.and_false, Bool.true_and, Bool.false_and, f_iadd, f_isub, f_imul, f_ishl, f_ishr, f_iushr, f_iand, f_ior, f_idiv, f_irem, f_ineg, f_i2b, f_i2s, f_ladd, f_lmul, c_eq, c_ne, c_lt, c_ge, c_gt, c_le, cc_eq, cc_ne, cc_lt, cc_ge, cc_gt, cc_le, rfo, aof, csum, Value.category, List.take, List.drop, List.reverse, List.reverseAux, List.map, List.sum_cons, List.sum_nil, List.cons_append, List.nil_append, Option.toList, List.mem_cons, List.not_mem_nil, List.length_cons, List.length_nil, reduceIte, Nat.reduceEqDiff, Nat.reduceAdd, Nat.reduceLeDiff, Nat.reduceLT, a_day, Nat.zero_ne_one, Nat.one_ne_zero, false_and, and_false, true_and, and_true, or_false, false_or, or_true, true_or, not_true_eq_false, not_false_eq_true, Nat.zero_add, Nat.add_zero, Nat.le_refl, Nat.lt_irrefl, Nat.zero_lt_succ, Nat.zero_le, forall_const, List.cons.injEq, Value.int.injEq, Value.ref.injEq, Value.long.injEq, and_assoc, exists_and_left, exists_eq_left']
    try simp only [forall_eq]
    have hf := fun (c1 : ¬ ((0 ≤ s0 ∧ s0 < nI (dn (dm M0))) ∧ (0 ≤ w ∧ w ≤ 1))) => by
      have := h M0 Sm.rf
      rwa [mvA, if_neg c1] at this
    refine ⟨(m_76 hg).1, (m_76 hg).2.1, dn (dm M0), by omega, hmany, ?_⟩
    subst hB5
    unfold BX6_move_5
    generalize hB14 : BX6_move_14 g Q (T_X6_isSeam g) (T_X6_within g) (T_X6_lengthOf g) (T_X6_shifts g) (T_X6_worth g) E44 = B14
    simp only [T_X6_isSeam, T_X6_within, T_X6_lengthOf, T_X6_shifts, T_X6_worth, i_const, i_lconst, i_iload, i_aload, i_lload, i_istore, i_astore, i_lstore, i_iinc, i_bin, i_div, i_un, i_i2l, i_l2i, i_lbin, i_lcmp, i_if, i_icmp, i_dup, i_dup_x1, i_dup2, i_pop, i_geti, i_getr, i_getd, i_puti, i_putz, i_putd, i_iald, i_bald, i_aald, i_iast, i_bast, i_alen, i_keep, i_ret, i_retz, i_reta, i_retl, i_retv, i_callv, i_callk, i_calls, i_mm, i_copy, i_under, i_undld, i_ldcs, i_sw, q_swc0, q_swc1, q_lg0, q_lg1, q_lent0, q_lent1, lset, lset2, q_lins0, q_lins1, q_ldel0, q_ldel1, q_ldel20, q_ldel21, q_lkeep0, q_lkeep1, q_memb0, q_memb1, cat2, Nat.reduceBEq, decide_true, decide_false, decide_eq_true_eq, cond_true, cond_false, Bool.and_true, Bool.and_false, Bool.true_and, Bool.false_and, f_iadd, f_isub, f_imul, f_ishl, f_ishr, f_iushr, f_iand, f_ior, f_idiv, f_irem, f_ineg, f_i2b, f_i2s, f_ladd, f_lmul, c_eq, c_ne, c_lt, c_ge, c_gt, c_le, cc_eq, cc_ne, cc_lt, cc_ge, cc_gt, cc_le, rfo, aof, csum, Value.category, List.take, List.drop, List.reverse, List.reverseAux, List.map, List.sum_cons, List.sum_nil, List.cons_append, List.nil_append, Option.toList, List.mem_cons, List.not_mem_nil, List.length_cons, List.length_nil, reduceIte, Nat.reduceEqDiff, Nat.reduceAdd, Nat.reduceLeDiff, Nat.reduceLT, a_day, Nat.zero_ne_one, Nat.one_ne_zero, false_and, and_false, true_and, and_true, or_false, false_or, or_true, true_or, not_true_eq_false, not_false_eq_true, Nat.zero_add, Nat.add_zero, Nat.le_refl, Nat.lt_irrefl, Nat.zero_lt_succ, Nat.zero_le, forall_const, List.cons.injEq, Value.int.injEq, Value.ref.injEq, Value.long.injEq, and_assoc, exists_and_left, exists_eq_left']
    try simp only [forall_eq]
    refine ⟨fun z => hf (fun q => b2n z q.1), fun z1 => ?_⟩
    subst hB14
    unfold BX6_move_14
    generalize hB33 : BX6_move_33 g Q (T_X6_isSeam g) (T_X6_within g) (T_X6_lengthOf g) (T_X6_shifts g) (T_X6_worth g) E44 = B33
    simp only [T_X6_isSeam, T_X6_within, T_X6_lengthOf, T_X6_shifts, T_X6_worth, i_const, i_lconst, i_iload, i_aload, i_lload, i_istore, i_astore, i_lstore, i_iinc, i_bin, i_div, i_un, i_i2l, i_l2i, i_lbin, i_lcmp, i_if, i_icmp, i_dup, i_dup_x1, i_dup2, i_pop, i_geti, i_getr, i_getd, i_puti, i_putz, i_putd, i_iald, i_bald, i_aald, i_iast, i_bast, i_alen, i_keep, i_ret, i_retz, i_reta, i_retl, i_retv, i_callv, i_callk, i_calls, i_mm, i_copy, i_under, i_undld, i_ldcs, i_sw, q_swc0, q_swc1, q_lg0, q_lg1, q_lent0, q_lent1, lset, lset2, q_lins0, q_lins1, q_ldel0, q_ldel1, q_ldel20, q_ldel21, q_lkeep0, q_lkeep1, q_memb0, q_memb1, cat2, Nat.reduceBEq, decide_true, decide_false, decide_eq_true_eq, cond_true, cond_false, Bool.and_true, Bool.and_false, Bool.true_and, Bool.false_and, f_iadd, f_isub, f_imul, f_ishl, f_ishr, f_iushr, f_iand, f_ior, f_idiv, f_irem, f_ineg, f_i2b, f_i2s, f_ladd, f_lmul, c_eq, c_ne, c_lt, c_ge, c_gt, c_le, cc_eq, cc_ne, cc_lt, cc_ge, cc_gt, cc_le, rfo, aof, csum, Value.category, List.take, List.drop, List.reverse, List.reverseAux, List.map, List.sum_cons, List.sum_nil, List.cons_append, List.nil_append, Option.toList, List.mem_cons, List.not_mem_nil, List.length_cons, List.length_nil, reduceIte, Nat.reduceEqDiff, Nat.reduceAdd, Nat.reduceLeDiff, Nat.reduceLT, a_day, Nat.zero_ne_one, Nat.one_ne_zero, false_and, and_false, true_and, and_true, or_false, false_or, or_true, true_or, not_true_eq_false, not_false_eq_true, Nat.zero_add, Nat.add_zero, Nat.le_refl, Nat.lt_irrefl, Nat.zero_lt_succ, Nat.zero_le, forall_const, List.cons.injEq, Value.int.injEq, Value.ref.injEq, Value.long.injEq, and_assoc, exists_and_left, exists_eq_left']
    try simp only [forall_eq]
    refine ⟨fun z3 => ?_, fun z => hf (fun q => b2n (Decidable.not_not.mp z) q.2)⟩
    obtain ⟨c1a, c1b⟩ := b2t z1
    obtain ⟨s, hs31, hse⟩ := nI_of (i_not_lt.mpr c1a)
    rw [hse] at c1b
    have hs : s < dn (dm M0) := (nI_ltI hs31 (by omega)).mp c1b
    obtain ⟨k1, k2, k3, k4⟩ := key s hs
    rw [hse, nI_clamp hs31, k1]
    refine ⟨m_76 hg, m_80 hg, vm l_80 (by omega) (by decide), (m_76 hg).1, (m_76 hg).2.1, s, rfl, by omega, ?_⟩
    subst hB33
    unfold BX6_move_33
    simp only [T_X6_isSeam, T_X6_within, T_X6_lengthOf, T_X6_shifts, T_X6_worth, i_const, i_lconst, i_iload, i_aload, i_lload, i_istore, i_astore, i_lstore, i_iinc, i_bin, i_div, i_un, i_i2l, i_l2i, i_lbin, i_lcmp, i_if, i_icmp, i_dup, i_dup_x1, i_dup2, i_pop, i_geti, i_getr, i_getd, i_puti, i_putz, i_putd, i_iald, i_bald, i_aald, i_iast, i_bast, i_alen, i_keep, i_ret, i_retz, i_reta, i_retl, i_retv, i_callv, i_callk, i_calls, i_mm, i_copy, i_under, i_undld, i_ldcs, i_sw, q_swc0, q_swc1, q_lg0, q_lg1, q_lent0, q_lent1, lset, lset2, q_lins0, q_lins1, q_ldel0, q_ldel1, q_ldel20, q_ldel21, q_lkeep0, q_lkeep1, q_memb0, q_memb1, cat2, Nat.reduceBEq, decide_true, decide_false, decide_eq_true_eq, cond_true, cond_false, Bool.and_true, Bool.and_false, Bool.true_and, Bool.false_and, f_iadd, f_isub, f_imul, f_ishl, f_ishr, f_iushr, f_iand, f_ior, f_idiv, f_irem, f_ineg, f_i2b, f_i2s, f_ladd, f_lmul, c_eq, c_ne, c_lt, c_ge, c_gt, c_le, cc_eq, cc_ne, cc_lt, cc_ge, cc_gt, cc_le, rfo, aof, csum, Value.category, List.take, List.drop, List.reverse, List.reverseAux, List.map, List.sum_cons, List.sum_nil, List.cons_append, List.nil_append, Option.toList, List.mem_cons, List.not_mem_nil, List.length_cons, List.length_nil, reduceIte, Nat.reduceEqDiff, Nat.reduceAdd, Nat.reduceLeDiff, Nat.reduceLT, a_day, Nat.zero_ne_one, Nat.one_ne_zero, false_and, and_false, true_and, and_true, or_false, false_or, or_true, true_or, not_true_eq_false, not_false_eq_true, Nat.zero_add, Nat.add_zero, Nat.le_refl, Nat.lt_irrefl, Nat.zero_lt_succ, Nat.zero_le, forall_const, List.cons.injEq, Value.int.injEq, Value.ref.injEq, Value.long.injEq, and_assoc, exists_and_left, exists_eq_left']
    try simp only [forall_eq]
    rw [k1, k2, pk_sub k3, nI_1]
    refine iE44 (16 - 0) _ _ _ ?_
    rw [hI44]
    exact ⟨0, s, hs, hse, b2t z3, rfl, rfl, by omega, rfl, Sm.rf⟩
