/-! ===== the best: cut, unpick ===== -/
def cup (w c : Int32) (p : Int32 × Int32) : Int32 × Int32 := if p.1 < w then (w, c) else p
def cutI (W : Nat → Nat → Int32) (f : Nat) : Nat → Int32 × Int32 → Int32 × Int32
  | 0, p => p
  | j + 1, p => cup (W f (f + j)) (100 * nI f + nI (f + j)) (cutI W f j p)
def cutO (W : Nat → Nat → Int32) : Nat → Int32 × Int32 → Int32 × Int32
  | 0, p => p
  | f + 1, p => cutI W f (16 - f) (cutO W f p)
def cutW (X : XV) (D : DV) (k n : Int32) (f l : Nat) : Int32 := wor X (addD D k n (nI f) (nI l))
def sel (w : Int32) (p : Int32 × Int32) : Int32 := if w = 0 then p.2 else p.1
def cutA (X : XV) (D : DV) (k n w : Int32) : Int32 := if ((0 ≤ k ∧ k ≤ 5) ∧ (0 ≤ n ∧ n ≤ 9)) ∧ (0 ≤ w ∧ w ≤ 1) then sel w (cutO (cutW X D k n) 16 (wor X D, -1)) else -100000
def unpN (X : XV) (D : DV) : Nat → Int32 × Int32
  | 0 => (wor X D, -1)
  | s + 1 => if D 6 s = 0 then cup (wor X (upF D 6 s 1)) (nI s) (unpN X D s) else unpN X D s
def unpA (X : XV) (D : DV) (w : Int32) : Int32 := if 0 ≤ w ∧ w ≤ 1 then sel w (unpN X D (dn D)) else -100000
/-- what the model's questions leave changed -/
def YZ (n a b : Nat) : Prop := (78 ≤ a ∧ a ≤ 83 ∧ n ≤ b) ∨ (a = 76 ∧ (b = 32 ∨ b = 36)) ∨ (89 ≤ a ∧ a ≤ 96)
def zM (M : MM) : Prop := ∀ s, s < 7 → M 83 s = 0 ∨ M 83 s = 1
theorem YL_Z {n a b : Nat} (h : YL a b) : YZ n a b := by unfold YL at h; unfold YZ; omega
theorem zM_L {Y : Nat → Nat → Prop} {M M' : MM} (hs : Sm Y M M') (hY : ∀ b, ¬ Y 83 b) (h : zM M) : zM M' := fun s hs' => by rw [hs 83 s (hY s)]; exact h s hs'
theorem zM_YL {M M' : MM} (hs : Sm YL M M') (h : zM M) : zM M' := zM_L hs (fun b => by unfold YL; omega) h
theorem dm_addD {M M' : MM} {k nu f l : Int32} (hn : dn (dm M) ≤ 6) (h77 : ∀ j, M' 77 j = M 77 j) (h2 : M' 76 2 = nI (dn (dm M) + 1)) (h0 : M' 76 0 = M 76 0) (h9 : M' 76 9 = M 76 9) (hlt : ∀ f s, 0 < f → f < 7 → s < dn (dm M) → M' (77 + f) s = M (77 + f) s)
    (e1 : M' 78 (dn (dm M)) = k) (e2 : M' 79 (dn (dm M)) = nu) (e3 : M' 80 (dn (dm M)) = f) (e4 : M' 81 (dn (dm M)) = l) (e5 : M' 82 (dn (dm M)) = 0) (e6 : M' 83 (dn (dm M)) = 0) : dm M' = addD (dm M) k nu f l := by
  obtain ⟨N, hN⟩ : ∃ N, dn (dm M) = N := ⟨_, rfl⟩
  rw [hN] at hn h2 hlt e1 e2 e3 e4 e5 e6
  have hcl : (nI (N + 1)).toNatClampNeg = N + 1 := nI_clamp (by omega)
  have hN2 : (M 76 2).toNatClampNeg = N := by rw [← hN]; exact (dm_n M).symm
  funext f' i
  by_cases h0' : f' = 0
  · subst h0'
    rw [show addD (dm M) k nu f l 0 i = dm M 0 i by simp [addD]]
    simp only [dm, if_true, h77]
  · by_cases h7 : f' < 7
    · have d1 : dm M' f' i = if i < N + 1 then M' (77 + f') i else 0 := by unfold dm; rw [if_neg h0', if_pos h7, h2, hcl]
      have d2 : dm M f' i = if i < N then M (77 + f') i else 0 := by unfold dm; rw [if_neg h0', if_pos h7, hN2]
      rw [d1]
      by_cases hi : i = N
      · subst hi
        have hA1 : addD (dm M) k nu f l f' i = if f' = 1 then k else if f' = 2 then nu else if f' = 3 then f else if f' = 4 then l else 0 := by
          unfold addD; rw [hN, if_neg (by omega), if_pos ⟨rfl, by omega, h7⟩]
        rw [hA1, if_pos (by omega)]
        have : f' = 1 ∨ f' = 2 ∨ f' = 3 ∨ f' = 4 ∨ f' = 5 ∨ f' = 6 := by omega
        rcases this with rfl | rfl | rfl | rfl | rfl | rfl <;> simp [e1, e2, e3, e4, e5, e6]
      · have hA2 : addD (dm M) k nu f l f' i = dm M f' i := by unfold addD; rw [hN, if_neg (by omega), if_neg (fun q => hi q.1)]
        rw [hA2, d2]
        by_cases hl : i < N
        · rw [if_pos (by omega), if_pos hl, hlt f' i (by omega) h7 hl]
        · rw [if_neg (by omega), if_neg hl]
    · by_cases h77' : f' = 7
      · subst h77'
        by_cases i0 : i = 0
        · subst i0
          rw [show addD (dm M) k nu f l 7 0 = nI (dn (dm M) + 1) by simp [addD], hN]
          exact h2
        · rw [show addD (dm M) k nu f l 7 i = dm M 7 i by simp [addD, i0]]
          simp only [dm]
          rw [h0, h9]
          simp [i0]
      · rw [show addD (dm M) k nu f l f' i = dm M f' i by simp [addD, h7, h77']]
        simp [dm, h0', h7, h77']
theorem wfD_add {D : DV} {T f l : Nat} {k nu : Int32} (h : wfD D T) (hn : dn D ≤ 6) (hk : isN k 6) (hnu : isN nu 10) (hfl : f ≤ l) (hl : l < 16) : wfD (addD D k nu (nI f) (nI l)) T := by
  have hd : dn (addD D k nu (nI f) (nI l)) = dn D + 1 := by
    show (addD D k nu (nI f) (nI l) 7 0).toNatClampNeg = _
    rw [show addD D k nu (nI f) (nI l) 7 0 = nI (dn D + 1) by simp [addD], nI_clamp (by omega)]
  refine ⟨?_, by omega, fun s hs => ?_, ?_⟩
  · rw [hd, show addD D k nu (nI f) (nI l) 7 0 = nI (dn D + 1) by simp [addD]]
  · rw [hd] at hs
    by_cases e : s = dn D
    · subst e
      have hf' : addD D k nu (nI f) (nI l) 3 (dn D) = nI f := by simp [addD]
      have hl' : addD D k nu (nI f) (nI l) 4 (dn D) = nI l := by simp [addD]
      have ef : fi (addD D k nu (nI f) (nI l)) (dn D) = f := by unfold fi; rw [hf', nI_clamp (by omega)]
      have el : la (addD D k nu (nI f) (nI l)) (dn D) = l := by unfold la; rw [hl', nI_clamp (by omega)]
      refine ⟨by rw [ef, hf'], by rw [el, hl'], by rw [ef, el]; exact hfl, by rw [el]; exact hl, ?_, ?_, ?_, ?_⟩
      · simp [addD]; exact ⟨0, by decide, rfl⟩
      · simp [addD]
      · simp [addD]; exact hk
      · simp [addD]; exact hnu
    · have hx : ∀ f', f' < 7 → addD D k nu (nI f) (nI l) f' s = D f' s := fun f' hf' => by
        simp only [addD]; rw [if_neg (fun q => by omega), if_neg (fun q => e q.1)]
      have := h.2.2.1 s (by omega)
      unfold wfS fi la at this ⊢
      rw [hx 3 (by decide), hx 4 (by decide), hx 5 (by decide), hx 6 (by decide), hx 1 (by decide), hx 2 (by decide)]
      exact this
  · obtain ⟨a, b⟩ := h.2.2.2
    refine ⟨?_, b⟩
    obtain ⟨t, ht, e⟩ := a
    refine ⟨t, ht, ?_⟩
    rw [show addD D k nu (nI f) (nI l) 7 2 = D 7 2 by simp [addD]]; exact e
theorem isN_of {x : Int32} {n : Nat} (hn : n < 2 ^ 31) (h : 0 ≤ x ∧ x ≤ nI n) : isN x (n + 1) := by
  obtain ⟨k, hk, rfl⟩ := nI_of (i_not_lt.mpr h.1)
  exact ⟨k, by have := (nI_leI hk hn).mp h.2; omega, rfl⟩
theorem b2t {p : Prop} [Decidable p] (h : ¬ b2i p = 0) : p := Decidable.not_not.mp fun q => h (b2i_f q)
theorem b2n {p : Prop} [Decidable p] (h : b2i p = 0) : ¬ p := b2i_0.mp h
/-- a seam more, of which all is told -/
def CS (M : MM) (k nu : Int32) (M' : MM) : Prop := Sm (fun a b => (78 ≤ a ∧ a ≤ 83 ∧ b = dn (dm M)) ∨ (a = 76 ∧ b = 2) ∨ (89 ≤ a ∧ a ≤ 92)) M M' ∧ M' 76 2 = nI (dn (dm M) + 1) ∧ M' 78 (dn (dm M)) = k ∧ M' 79 (dn (dm M)) = nu ∧ M' 82 (dn (dm M)) = 0 ∧ M' 83 (dn (dm M)) = 0
theorem CS_dm {M M' : MM} {k nu f l : Int32} (hn : dn (dm M) ≤ 6) (h : CS M k nu M') (e3 : M' 80 (dn (dm M)) = f) (e4 : M' 81 (dn (dm M)) = l) : dm M' = addD (dm M) k nu f l := by
  obtain ⟨hs, h2, e1, e2, e5, e6⟩ := h
  exact dm_addD hn (fun j => hs _ _ (by omega)) h2 (hs _ _ (by omega)) (hs _ _ (by omega)) (fun f s h1 h7 hs' => hs _ _ (by omega)) e1 e2 e3 e4 e5 e6
theorem CS_L {M M1 M2 : MM} {k nu : Int32} (h : CS M k nu M1) (hs : Sm YL M1 M2) : CS M k nu M2 := by
  obtain ⟨h1, h2, h3, h4, h5, h6⟩ := h
  have f : ∀ a b, a < 89 → M2 a b = M1 a b := fun a b ha => hs a b (by unfold YL; omega)
  refine ⟨h1.tr (hs.mono fun a b q => by unfold YL at q; omega), ?_, ?_, ?_, ?_, ?_⟩ <;> rw [f _ _ (by decide)] <;> assumption
theorem CS_set {M M1 : MM} {k nu x : Int32} {a : Nat} (h : CS M k nu M1) (ha : a = 80 ∨ a = 81) : CS M k nu (mset M1 a (dn (dm M)) x) := by
  obtain ⟨h1, h2, h3, h4, h5, h6⟩ := h
  have f : ∀ a' b, ¬ a' = a → mset M1 a (dn (dm M)) x a' b = M1 a' b := fun a' b q => ms_q q
  refine ⟨h1.set _ (Or.inl (by omega)), ?_, ?_, ?_, ?_, ?_⟩ <;> rw [f _ _ (by omega)] <;> assumption
def T_X6_cut (g : WG) (as : List Value) (M : MM) (Q : Option Value → MM → Prop) : Prop := ∃ k n w, as = [.ref 76, .int k, .int n, .int w] ∧ okM M ∧ zM M ∧ dn (dm M) ≤ 6 ∧ ∀ M', Sm (YZ (dn (dm M))) M M' → zM M' → Q (some (.int (cutA (xm M) (dm M) k n w))) M'
set_option maxRecDepth 100000 in
set_option maxHeartbeats 2000000 in
theorem t_X6_cut {l : Launch} {g : WG} (hg : Full g) : Ct l g yX6_cut cX6_cut 10 ((Option.some FieldType.int)) 8 (T_X6_cut g) := by
  refine Ct.of (by decide) (fun as M Q h => ?_) (fun p e s m args below meth c as M Q h C => ?_)
  · obtain ⟨k, nu, w, rfl, ho, hz, hn, h⟩ := h; exact ⟨by simp, by simp [Value.category]⟩
  · obtain ⟨k, nu, w, rfl, ho, hz, hn, h⟩ := h
    have hmany := ho.many
    obtain ⟨Tn, hwf, htx, h9⟩ := id ho
    obtain ⟨W, hW⟩ : ∃ W, cutW (xm M) (dm M) k nu = W := ⟨_, rfl⟩
    obtain ⟨p0, hp0⟩ : ∃ p0, (wor (xm M) (dm M), (-1 : Int32)) = p0 := ⟨_, rfl⟩
    obtain ⟨N, hN⟩ : ∃ N, dn (dm M) = N := ⟨_, rfl⟩
    have hc := fun (c1 : ((0 ≤ k ∧ k ≤ 5) ∧ (0 ≤ nu ∧ nu ≤ 9)) ∧ (0 ≤ w ∧ w ≤ 1)) M' hs hz' => by
      have := h M' hs hz'
      rwa [cutA, if_pos c1, hW, hp0] at this
    have hf := fun (c1 : ¬ (((0 ≤ k ∧ k ≤ 5) ∧ (0 ≤ nu ∧ nu ≤ 9)) ∧ (0 ≤ w ∧ w ≤ 1))) => by
      have := h M Sm.rf hz
      rwa [cutA, if_neg c1] at this
    obtain ⟨I54, hI54⟩ : ∃ I : Nat → PP, I = (fun n lv st M' => ∃ f, lv = [(0, .ref 76), (3, .int w), (4, .int (cutO W f p0).1), (5, .int (cutO W f p0).2), (6, .int (nI N)), (7, .int (nI f))] ∧ st = [] ∧ f ≤ 16 ∧ n = 16 - f ∧ CS M k nu M' ∧ ((0 ≤ k ∧ k ≤ 5) ∧ (0 ≤ nu ∧ nu ≤ 9)) ∧ (0 ≤ w ∧ w ≤ 1)) := ⟨_, rfl⟩
    obtain ⟨E54, hE54⟩ : ∃ E : PP, E = (fun lv st M => ∃ n, I54 n lv st M) := ⟨_, rfl⟩
    have iE54 : ∀ n lv st M, I54 n lv st M → E54 lv st M := fun n lv st M h => by rw [hE54]; exact ⟨n, h⟩
    obtain ⟨I65, hI65⟩ : ∃ I : PP → Nat → PP, I = (fun K n lv st M' => ∃ f j, lv = [(0, .ref 76), (3, .int w), (4, .int (cutI W f j (cutO W f p0)).1), (5, .int (cutI W f j (cutO W f p0)).2), (6, .int (nI N)), (7, .int (nI f)), (8, .int (nI (f + j)))] ∧ st = [] ∧ f < 16 ∧ f + j ≤ 16 ∧ n = 16 - (f + j) ∧ CS M k nu M' ∧ (((0 ≤ k ∧ k ≤ 5) ∧ (0 ≤ nu ∧ nu ≤ 9)) ∧ (0 ≤ w ∧ w ≤ 1)) ∧ ∀ M2, CS M k nu M2 → K [(0, .ref 76), (3, .int w), (4, .int (cutO W (f + 1) p0).1), (5, .int (cutO W (f + 1) p0).2), (6, .int (nI N)), (7, .int (nI (f + 1)))] [] M2) := ⟨_, rfl⟩
    have L65 : ∀ K54, Sj p l e 8 s m args below meth c 10 g (MQ below (cQc g Q) args s 0 0 (gA g)) 54 K54 → Sj p l e 8 s m args below meth c 10 g (MQ below (cQc g Q) args s 0 0 (gA g)) 65 (fun lv st M => ∃ n, I65 K54 n lv st M) := by
      intro K54 k54
      refine s_ex (s_loop (I65 K54) (fun K65 k65 => WX6_cut_65 C (t_X6_within hg) (by decide) (t_X6_worth hg) (by decide) (t_X6_newSeam hg) (by decide) k54 k65) ?_)
      intro n lv st M1 K65 hK65 hI; rw [hI65] at hI; obtain ⟨f, j, rfl, rfl, hf16, hj16, rfl, hcs, hcc, hK⟩ := hI
      unfold BX6_cut_65
      generalize hB94 : BX6_cut_94 g Q (T_X6_within g) (T_X6_worth g) (T_X6_newSeam g) K54 K65 = B94
      simp only [T_X6_within, T_X6_worth, T_X6_newSeam, i_const, i_lconst, i_iload, i_aload, i_lload, i_istore, i_astore, i_lstore, i_iinc, i_bin, i_div, i_un, i_i2l, i_l2i, i_lbin, i_lcmp, i_if, i_icmp, i_dup, i_dup_x1, i_dup2, i_pop, i_geti, i_getr, i_getd, i_puti, i_putz, i_putd, i_iald, i_bald, i_aald, i_iast, i_bast, i_alen, i_keep, i_ret, i_retz, i_reta, i_retl, i_retv, i_callv, i_callk, i_calls, i_mm, i_copy, i_under, i_undld, i_ldcs, i_sw, q_swc0, q_swc1, q_lg0, q_lg1, q_lent0, q_lent1, lset, lset2, q_lins0, q_lins1, q_ldel0, q_ldel1, q_ldel20, q_ldel21, q_lkeep0, q_lkeep1, q_memb0, q_memb1, cat2, Nat.reduceBEq, decide_true, decide_false, decide_eq_true_eq, cond_true, cond_false, Bool.and_true, Bool.and_false, Bool.true_and, Bool.false_and, f_iadd, f_isub, f_imul, f_ishl, f_ishr, f_iushr, f_iand, f_ior, f_idiv, f_irem, f_ineg, f_i2b, f_i2s, f_ladd, f_lmul, c_eq, c_ne, c_lt, c_ge, c_gt, c_le, cc_eq, cc_ne, cc_lt, cc_ge, cc_gt, cc_le, rfo, aof, csum, Value.category, List.take, List.drop, List.reverse, List.reverseAux, List.map, List.sum_cons, List.sum_nil, List.cons_append, List.nil_append, Option.toList, List.mem_cons, List.not_mem_nil, List.length_cons, List.length_nil, reduceIte, Nat.reduceEqDiff, Nat.reduceAdd, Nat.reduceLeDiff, Nat.reduceLT, a_day, Nat.zero_ne_one, Nat.one_ne_zero, false_and, and_false, true_and, and_true, or_false, false_or, or_true, true_or, not_true_eq_false, not_false_eq_true, Nat.zero_add, Nat.add_zero, Nat.le_refl, Nat.lt_irrefl, Nat.zero_lt_succ, Nat.zero_le, forall_const, List.cons.injEq, Value.int.injEq, Value.ref.injEq, Value.long.injEq, and_assoc, exists_and_left, exists_eq_left']
      try simp only [forall_eq]
      rw [show (16 : Int32) = nI 16 from rfl, nI_leI (by decide) (by omega)]
      refine ⟨fun z => ?_, fun z => ?_⟩
      · rw [nI_1]
        have : j = 16 - f := by omega
        subst this
        exact hK M1 hcs
      · have hc2 : CS M k nu (mset (mset M1 80 N (nI f)) 81 N (nI (f + j))) := by rw [← hN]; exact CS_set (CS_set hcs (Or.inl rfl)) (Or.inr rfl)
        have hd2 : dm (mset (mset M1 80 N (nI f)) 81 N (nI (f + j))) = addD (dm M) k nu (nI f) (nI (f + j)) := CS_dm hn hc2 (by rw [hN, ms_q (by decide), ms_s]) (by rw [hN, ms_s])
        obtain ⟨ko, kx⟩ := okM.to hc2.1 hd2 (wfD_add hwf hn (isN_of (n := 5) (by decide) hcc.1.1) (isN_of (n := 9) (by decide) hcc.1.2) (by omega) (by omega)) htx h9 (by omega) (fun a b _ _ => by omega)
        rw [nI_clamp (by omega)]
        refine ⟨m_76 hg, m_80 hg, vm l_80 (by omega) (by decide), m_76 hg, m_81 hg, vm l_81 (by omega) (by decide), (m_76 hg).1, (m_76 hg).2.1, ko, fun M2 hs2 hl2 => ?_⟩
        subst hB94
        unfold BX6_cut_94
        simp only [T_X6_within, T_X6_worth, T_X6_newSeam, i_const, i_lconst, i_iload, i_aload, i_lload, i_istore, i_astore, i_lstore, i_iinc, i_bin, i_div, i_un, i_i2l, i_l2i, i_lbin, i_lcmp, i_if, i_icmp, i_dup, i_dup_x1, i_dup2, i_pop, i_geti, i_getr, i_getd, i_puti, i_putz, i_putd, i_iald, i_bald, i_aald, i_iast, i_bast, i_alen, i_keep, i_ret, i_retz, i_reta, i_retl, i_retv, i_callv, i_callk, i_calls, i_mm, i_copy, i_under, i_undld, i_ldcs, i_sw, q_swc0, q_swc1, q_lg0, q_lg1, q_lent0, q_lent1, lset, lset2, q_lins0, q_lins1, q_ldel0, q_ldel1, q_ldel20, q_ldel21, q_lkeep0, q_lkeep1, q_memb0, q_memb1, cat2, Nat.reduceBEq, decide_true, decide_false, decide_eq_true_eq, cond_true, cond_false, Bool.and_true, Bool.and_false, Bool.true_and, Bool.false_and, f_iadd, f_isub, f_imul, f_ishl, f_ishr, f_iushr, f_iand, f_ior, f_idiv, f_irem, f_ineg, f_i2b, f_i2s, f_ladd, f_lmul, c_eq, c_ne, c_lt, c_ge, c_gt, c_le, cc_eq, cc_ne, cc_lt, cc_ge, cc_gt, cc_le, rfo, aof, csum, Value.category, List.take, List.drop, List.reverse, List.reverseAux, List.map, List.sum_cons, List.sum_nil, List.cons_append, List.nil_append, Option.toList, List.mem_cons, List.not_mem_nil, List.length_cons, List.length_nil, reduceIte, Nat.reduceEqDiff, Nat.reduceAdd, Nat.reduceLeDiff, Nat.reduceLT, a_day, Nat.zero_ne_one, Nat.one_ne_zero, false_and, and_false, true_and, and_true, or_false, false_or, or_true, true_or, not_true_eq_false, not_false_eq_true, Nat.zero_add, Nat.add_zero, Nat.le_refl, Nat.lt_irrefl, Nat.zero_lt_succ, Nat.zero_le, forall_const, List.cons.injEq, Value.int.injEq, Value.ref.injEq, Value.long.injEq, and_assoc, exists_and_left, exists_eq_left']
        try simp only [forall_eq]
        have hw : wor (xm (mset (mset M1 80 N (nI f)) 81 N (nI (f + j)))) (dm (mset (mset M1 80 N (nI f)) 81 N (nI (f + j)))) = W f (f + j) := by rw [kx, hd2, ← hW]; rfl
        rw [hw, nI_1]
        have fin : ∀ x y, (x, y) = cutI W f (j + 1) (cutO W f p0) → K65 [(0, .ref 76), (3, .int w), (4, .int x), (5, .int y), (6, .int (nI N)), (7, .int (nI f)), (8, .int (nI (f + j + 1)))] [] M2 := by
          intro x y hxy
          refine hK65 (16 - (f + (j + 1))) _ _ _ (by omega) ?_
          rw [hI65]
          exact ⟨f, j + 1, by rw [← hxy]; rfl, rfl, hf16, by omega, rfl, CS_L hc2 hs2, hcc, hK⟩
        refine ⟨fun y => fin _ _ ?_, fun y => fin _ _ ?_⟩
        · simp only [cutI, cup]; rw [if_pos y]
        · simp only [cutI, cup]; rw [if_neg y]
    have L54 : Sj p l e 8 s m args below meth c 10 g (MQ below (cQc g Q) args s 0 0 (gA g)) 54 E54 := by
      rw [hE54]
      refine s_ex (s_loop I54 (fun K54 k54 => WX6_cut_54 C (t_X6_within hg) (by decide) (t_X6_worth hg) (by decide) (t_X6_newSeam hg) (by decide) k54 (L65 _ k54)) ?_)
      intro n lv st M1 K54 hK54 hI; rw [hI54] at hI; obtain ⟨f, rfl, rfl, hf16, rfl, hcs, hcc⟩ := hI
      generalize hE65 : (fun lv st M => ∃ n, I65 K54 n lv st M) = E65
      have iE65 : ∀ n lv st M, I65 K54 n lv st M → E65 lv st M := fun n lv st M h => by rw [← hE65]; exact ⟨n, h⟩
      unfold BX6_cut_54
      generalize hB132 : BX6_cut_132 g Q (T_X6_within g) (T_X6_worth g) (T_X6_newSeam g) K54 E65 = B132
      simp only [T_X6_within, T_X6_worth, T_X6_newSeam, i_const, i_lconst, i_iload, i_aload, i_lload, i_istore, i_astore, i_lstore, i_iinc, i_bin, i_div, i_un, i_i2l, i_l2i, i_lbin, i_lcmp, i_if, i_icmp, i_dup, i_dup_x1, i_dup2, i_pop, i_geti, i_getr, i_getd, i_puti, i_putz, i_putd, i_iald, i_bald, i_aald, i_iast, i_bast, i_alen, i_keep, i_ret, i_retz, i_reta, i_retl, i_retv, i_callv, i_callk, i_calls, i_mm, i_copy, i_under, i_undld, i_ldcs, i_sw, q_swc0, q_swc1, q_lg0, q_lg1, q_lent0, q_lent1, lset, lset2, q_lins0, q_lins1, q_ldel0, q_ldel1, q_ldel20, q_ldel21, q_lkeep0, q_lkeep1, q_memb0, q_memb1, cat2, Nat.reduceBEq, decide_true, decide_false, decide_eq_true_eq, cond_true, cond_false, Bool.and_true, Bool.and_false, Bool.true_and, Bool.false_and, f_iadd, f_isub, f_imul, f_ishl, f_ishr, f_iushr, f_iand, f_ior, f_idiv, f_irem, f_ineg, f_i2b, f_i2s, f_ladd, f_lmul, c_eq, c_ne, c_lt, c_ge, c_gt, c_le, cc_eq, cc_ne, cc_lt, cc_ge, cc_gt, cc_le, rfo, aof, csum, Value.category, List.take, List.drop, List.reverse, List.reverseAux, List.map, List.sum_cons, List.sum_nil, List.cons_append, List.nil_append, Option.toList, List.mem_cons, List.not_mem_nil, List.length_cons, List.length_nil, reduceIte, Nat.reduceEqDiff, Nat.reduceAdd, Nat.reduceLeDiff, Nat.reduceLT, a_day, Nat.zero_ne_one, Nat.one_ne_zero, false_and, and_false, true_and, and_true, or_false, false_or, or_true, true_or, not_true_eq_false, not_false_eq_true, Nat.zero_add, Nat.add_zero, Nat.le_refl, Nat.lt_irrefl, Nat.zero_lt_succ, Nat.zero_le, forall_const, List.cons.injEq, Value.int.injEq, Value.ref.injEq, Value.long.injEq, and_assoc, exists_and_left, exists_eq_left']
      try simp only [forall_eq]
      rw [show (16 : Int32) = nI 16 from rfl, nI_leI (by decide) (by omega)]
      refine ⟨fun z => ?_, fun z => ?_⟩
      · have : f = 16 := by omega
        subst this
        subst hB132
        unfold BX6_cut_132
        simp only [T_X6_within, T_X6_worth, T_X6_newSeam, i_const, i_lconst, i_iload, i_aload, i_lload, i_istore, i_astore, i_lstore, i_iinc, i_bin, i_div, i_un, i_i2l, i_l2i, i_lbin, i_lcmp, i_if, i_icmp, i_dup, i_dup_x1, i_dup2, i_pop, i_geti, i_getr, i_getd, i_puti, i_putz, i_putd, i_iald, i_bald, i_aald, i_iast, i_bast, i_alen, i_keep, i_ret, i_retz, i_reta, i_retl, i_retv, i_callv, i_callk, i_calls, i_mm, i_copy, i_under, i_undld, i_ldcs, i_sw, q_swc0, q_swc1, q_lg0, q_lg1, q_lent0, q_lent1, lset, lset2, q_lins0, q_lins1, q_ldel0, q_ldel1, q_ldel20, q_ldel21, q_lkeep0, q_lkeep1, q_memb0, q_memb1, cat2, Nat.reduceBEq, decide_true, decide_false, decide_eq_true_eq, cond_true, cond_false, Bool.and_true, Bool.and_false, Bool.true_and, Bool.false_and, f_iadd, f_isub, f_imul, f_ishl, f_ishr, f_iushr, f_iand, f_ior, f_idiv, f_irem, f_ineg, f_i2b, f_i2s, f_ladd, f_lmul, c_eq, c_ne, c_lt, c_ge, c_gt, c_le, cc_eq, cc_ne, cc_lt, cc_ge, cc_gt, cc_le, rfo, aof, csum, Value.category, List.take, List.drop, List.reverse, List.reverseAux, List.map, List.sum_cons, List.sum_nil, List.cons_append, List.nil_append, Option.toList, List.mem_cons, List.not_mem_nil, List.length_cons, List.length_nil, reduceIte, Nat.reduceEqDiff, Nat.reduceAdd, Nat.reduceLeDiff, Nat.reduceLT, a_day, Nat.zero_ne_one, Nat.one_ne_zero, false_and, and_false, true_and, and_true, or_false, false_or, or_true, true_or, not_true_eq_false, not_false_eq_true, Nat.zero_add, Nat.add_zero, Nat.le_refl, Nat.lt_irrefl, Nat.zero_lt_succ, Nat.zero_le, forall_const, List.cons.injEq, Value.int.injEq, Value.ref.injEq, Value.long.injEq, and_assoc, exists_and_left, exists_eq_left']
        try simp only [forall_eq]
        obtain ⟨g1, g2, g3, g4, g5, g6⟩ := hcs
        rw [hN] at g1 g2 g3 g4 g5 g6
        have hfin := hc hcc (mset M1 76 2 (nI (N + 1) - 1)) ?_ ?_
        · unfold sel at hfin
          rw [g2]
          refine ⟨m_76 hg, m_76 hg, fun y => ?_, fun y => ?_⟩
          · rwa [if_neg y] at hfin
          · rwa [if_pos (Decidable.not_not.mp y)] at hfin
        · rw [hN]
          intro a b hy
          rw [mset_app]
          split
          · next e =>
            split
            · next e2 => subst e; subst e2; rw [nI_pred, hmany, hN]
            · exact g1 a b (by unfold YZ at hy; omega)
          · exact g1 a b (by unfold YZ at hy; omega)
        · intro s hs
          rw [ms_q (by decide)]
          by_cases e : s = N
          · subst e; exact Or.inl g6
          · rw [g1 _ _ (by omega)]; exact hz s hs
      · refine iE65 (16 - (f + 0)) _ _ _ ?_
        rw [hI65]
        refine ⟨f, 0, rfl, rfl, by omega, by omega, rfl, hcs, hcc, fun M2 hc2 => ?_⟩
        refine hK54 (16 - (f + 1)) _ _ _ (by omega) ?_
        rw [hI54]
        exact ⟨f + 1, rfl, rfl, by omega, rfl, hc2, hcc⟩
    refine s_of (fun lv st M0 hs => ?_) (WX6_cut_0 C (t_X6_within hg) (by decide) (t_X6_worth hg) (by decide) (t_X6_newSeam hg) (by decide) L54 s_F)
    obtain ⟨rfl, rfl, rfl⟩ := hs
    unfold BX6_cut_0
    generalize hB6 : BX6_cut_6 g Q (T_X6_within g) (T_X6_worth g) (T_X6_newSeam g) E54 (fun _ _ _ => False) = B6
    simp only [T_X6_within, T_X6_worth, T_X6_newSeam, i_const, i_lconst, i_iload, i_aload, i_lload, i_istore, i_astore, i_lstore, i_iinc, i_bin, i_div, i_un, i_i2l, i_l2i, i_lbin, i_lcmp, i_if, i_icmp, i_dup, i_dup_x1, i_dup2, i_pop, i_geti, i_getr, i_getd, i_puti, i_putz, i_putd, i_iald, i_bald, i_aald, i_iast, i_bast, i_alen, i_keep, i_ret, i_retz, i_reta, i_retl, i_retv, i_callv, i_callk, i_calls, i_mm, i_copy, i_under, i_undld, i_ldcs, i_sw, q_swc0, q_swc1, q_lg0, q_lg1, q_lent0, q_lent1, lset, lset2, q_lins0, q_lins1, q_ldel0, q_ldel1, q_ldel20, q_ldel21, q_lkeep0, q_lkeep1, q_memb0, q_memb1, cat2, Nat.reduceBEq, decide_true, decide_false, decide_eq_true_eq, cond_true, cond_false, Bool.and_true, Bool.and_false, Bool.true_and, Bool.false_and, f_iadd, f_isub, f_imul, f_ishl, f_ishr, f_iushr, f_iand, f_ior, f_idiv, f_irem, f_ineg, f_i2b, f_i2s, f_ladd, f_lmul, c_eq, c_ne, c_lt, c_ge, c_gt, c_le, cc_eq, cc_ne, cc_lt, cc_ge, cc_gt, cc_le, rfo, aof, csum, Value.category, List.take, List.drop, List.reverse, List.reverseAux, List.map, List.sum_cons, List.sum_nil, List.cons_append, List.nil_append, Option.toList, List.mem_cons, List.not_mem_nil, List.length_cons, List.length_nil, reduceIte, Nat.reduceEqDiff, Nat.reduceAdd, Nat.reduceLeDiff, Nat.reduceLT, a_day, Nat.zero_ne_one, Nat.one_ne_zero, false_and, and_false, true_and, and_true, or_false, false_or, or_true, true_or, not_true_eq_false, not_false_eq_true, Nat.zero_add, Nat.add_zero, Nat.le_refl, Nat.lt_irrefl, Nat.zero_lt_succ, Nat.zero_le, forall_const, List.cons.injEq, Value.int.injEq, Value.ref.injEq, Value.long.injEq, and_assoc, exists_and_left, exists_eq_left']
    try simp only [forall_eq]
    subst hB6
    unfold BX6_cut_6
    generalize hB16 : BX6_cut_16 g Q (T_X6_within g) (T_X6_worth g) (T_X6_newSeam g) E54 (fun _ _ _ => False) = B16
    simp only [T_X6_within, T_X6_worth, T_X6_newSeam, i_const, i_lconst, i_iload, i_aload, i_lload, i_istore, i_astore, i_lstore, i_iinc, i_bin, i_div, i_un, i_i2l, i_l2i, i_lbin, i_lcmp, i_if, i_icmp, i_dup, i_dup_x1, i_dup2, i_pop, i_geti, i_getr, i_getd, i_puti, i_putz, i_putd, i_iald, i_bald, i_aald, i_iast, i_bast, i_alen, i_keep, i_ret, i_retz, i_reta, i_retl, i_retv, i_callv, i_callk, i_calls, i_mm, i_copy, i_under, i_undld, i_ldcs, i_sw, q_swc0, q_swc1, q_lg0, q_lg1, q_lent0, q_lent1, lset, lset2, q_lins0, q_lins1, q_ldel0, q_ldel1, q_ldel20, q_ldel21, q_lkeep0, q_lkeep1, q_memb0, q_memb1, cat2, Nat.reduceBEq, decide_true, decide_false, decide_eq_true_eq, cond_true, cond_false, Bool.and_true, Bool.and_false, Bool.true_and, Bool.false_and, f_iadd, f_isub, f_imul, f_ishl, f_ishr, f_iushr, f_iand, f_ior, f_idiv, f_irem, f_ineg, f_i2b, f_i2s, f_ladd, f_lmul, c_eq, c_ne, c_lt, c_ge, c_gt, c_le, cc_eq, cc_ne, cc_lt, cc_ge, cc_gt, cc_le, rfo, aof, csum, Value.category, List.take, List.drop, List.reverse, List.reverseAux, List.map, List.sum_cons, List.sum_nil, List.cons_append, List.nil_append, Option.toList, List.mem_cons, List.not_mem_nil, List.length_cons, List.length_nil, reduceIte, Nat.reduceEqDiff, Nat.reduceAdd, Nat.reduceLeDiff, Nat.reduceLT, a_day, Nat.zero_ne_one, Nat.one_ne_zero, false_and, and_false, true_and, and_true, or_false, false_or, or_true, true_or, not_true_eq_false, not_false_eq_true, Nat.zero_add, Nat.add_zero, Nat.le_refl, Nat.lt_irrefl, Nat.zero_lt_succ, Nat.zero_le, forall_const, List.cons.injEq, Value.int.injEq, Value.ref.injEq, Value.long.injEq, and_assoc, exists_and_left, exists_eq_left']
    try simp only [forall_eq]
    refine ⟨fun z => hf (fun q => b2n z q.1.1), fun z1 => ?_⟩
    subst hB16
    unfold BX6_cut_16
    generalize hB25 : BX6_cut_25 g Q (T_X6_within g) (T_X6_worth g) (T_X6_newSeam g) E54 (fun _ _ _ => False) = B25
    simp only [T_X6_within, T_X6_worth, T_X6_newSeam, i_const, i_lconst, i_iload, i_aload, i_lload, i_istore, i_astore, i_lstore, i_iinc, i_bin, i_div, i_un, i_i2l, i_l2i, i_lbin, i_lcmp, i_if, i_icmp, i_dup, i_dup_x1, i_dup2, i_pop, i_geti, i_getr, i_getd, i_puti, i_putz, i_putd, i_iald, i_bald, i_aald, i_iast, i_bast, i_alen, i_keep, i_ret, i_retz, i_reta, i_retl, i_retv, i_callv, i_callk, i_calls, i_mm, i_copy, i_under, i_undld, i_ldcs, i_sw, q_swc0, q_swc1, q_lg0, q_lg1, q_lent0, q_lent1, lset, lset2, q_lins0, q_lins1, q_ldel0, q_ldel1, q_ldel20, q_ldel21, q_lkeep0, q_lkeep1, q_memb0, q_memb1, cat2, Nat.reduceBEq, decide_true, decide_false, decide_eq_true_eq, cond_true, cond_false, Bool.and_true, Bool.and_false, Bool.true_and, Bool.false_and, f_iadd, f_isub, f_imul, f_ishl, f_ishr, f_iushr, f_iand, f_ior, f_idiv, f_irem, f_ineg, f_i2b, f_i2s, f_ladd, f_lmul, c_eq, c_ne, c_lt, c_ge, c_gt, c_le, cc_eq, cc_ne, cc_lt, cc_ge, cc_gt, cc_le, rfo, aof, csum, Value.category, List.take, List.drop, List.reverse, List.reverseAux, List.map, List.sum_cons, List.sum_nil, List.cons_append, List.nil_append, Option.toList, List.mem_cons, List.not_mem_nil, List.length_cons, List.length_nil, reduceIte, Nat.reduceEqDiff, Nat.reduceAdd, Nat.reduceLeDiff, Nat.reduceLT, a_day, Nat.zero_ne_one, Nat.one_ne_zero, false_and, and_false, true_and, and_true, or_false, false_or, or_true, true_or, not_true_eq_false, not_false_eq_true, Nat.zero_add, Nat.add_zero, Nat.le_refl, Nat.lt_irrefl, Nat.zero_lt_succ, Nat.zero_le, forall_const, List.cons.injEq, Value.int.injEq, Value.ref.injEq, Value.long.injEq, and_assoc, exists_and_left, exists_eq_left']
    try simp only [forall_eq]
    refine ⟨fun z => hf (fun q => b2n z q.1.2), fun z2 => ?_⟩
    subst hB25
    unfold BX6_cut_25
    generalize hB36 : BX6_cut_36 g Q (T_X6_within g) (T_X6_worth g) (T_X6_newSeam g) E54 (fun _ _ _ => False) = B36
    simp only [T_X6_within, T_X6_worth, T_X6_newSeam, i_const, i_lconst, i_iload, i_aload, i_lload, i_istore, i_astore, i_lstore, i_iinc, i_bin, i_div, i_un, i_i2l, i_l2i, i_lbin, i_lcmp, i_if, i_icmp, i_dup, i_dup_x1, i_dup2, i_pop, i_geti, i_getr, i_getd, i_puti, i_putz, i_putd, i_iald, i_bald, i_aald, i_iast, i_bast, i_alen, i_keep, i_ret, i_retz, i_reta, i_retl, i_retv, i_callv, i_callk, i_calls, i_mm, i_copy, i_under, i_undld, i_ldcs, i_sw, q_swc0, q_swc1, q_lg0, q_lg1, q_lent0, q_lent1, lset, lset2, q_lins0, q_lins1, q_ldel0, q_ldel1, q_ldel20, q_ldel21, q_lkeep0, q_lkeep1, q_memb0, q_memb1, cat2, Nat.reduceBEq, decide_true, decide_false, decide_eq_true_eq, cond_true, cond_false, Bool.and_true, Bool.and_false, Bool.true_and, Bool.false_and, f_iadd, f_isub, f_imul, f_ishl, f_ishr, f_iushr, f_iand, f_ior, f_idiv, f_irem, f_ineg, f_i2b, f_i2s, f_ladd, f_lmul, c_eq, c_ne, c_lt, c_ge, c_gt, c_le, cc_eq, cc_ne, cc_lt, cc_ge, cc_gt, cc_le, rfo, aof, csum, Value.category, List.take, List.drop, List.reverse, List.reverseAux, List.map, List.sum_cons, List.sum_nil, List.cons_append, List.nil_append, Option.toList, List.mem_cons, List.not_mem_nil, List.length_cons, List.length_nil, reduceIte, Nat.reduceEqDiff, Nat.reduceAdd, Nat.reduceLeDiff, Nat.reduceLT, a_day, Nat.zero_ne_one, Nat.one_ne_zero, false_and, and_false, true_and, and_true, or_false, false_or, or_true, true_or, not_true_eq_false, not_false_eq_true, Nat.zero_add, Nat.add_zero, Nat.le_refl, Nat.lt_irrefl, Nat.zero_lt_succ, Nat.zero_le, forall_const, List.cons.injEq, Value.int.injEq, Value.ref.injEq, Value.long.injEq, and_assoc, exists_and_left, exists_eq_left']
    try simp only [forall_eq]
    refine ⟨fun z3 => ?_, fun z => hf (fun q => b2n (Decidable.not_not.mp z) q.2)⟩
    refine ⟨(m_76 hg).1, (m_76 hg).2.1, ho, fun M1 hs1 hl1 => ?_⟩
    obtain ⟨ko, kd', kx⟩ := keepM hs1 YL88 ho
    have f1 : ∀ a b, a < 89 → M1 a b = M0 a b := fun a b ha => hs1 a b (by unfold YL; omega)
    subst hB36
    unfold BX6_cut_36
    generalize hB49 : BX6_cut_49 g Q (T_X6_within g) (T_X6_worth g) (T_X6_newSeam g) E54 (fun _ _ _ => False) = B49
    simp only [T_X6_within, T_X6_worth, T_X6_newSeam, i_const, i_lconst, i_iload, i_aload, i_lload, i_istore, i_astore, i_lstore, i_iinc, i_bin, i_div, i_un, i_i2l, i_l2i, i_lbin, i_lcmp, i_if, i_icmp, i_dup, i_dup_x1, i_dup2, i_pop, i_geti, i_getr, i_getd, i_puti, i_putz, i_putd, i_iald, i_bald, i_aald, i_iast, i_bast, i_alen, i_keep, i_ret, i_retz, i_reta, i_retl, i_retv, i_callv, i_callk, i_calls, i_mm, i_copy, i_under, i_undld, i_ldcs, i_sw, q_swc0, q_swc1, q_lg0, q_lg1, q_lent0, q_lent1, lset, lset2, q_lins0, q_lins1, q_ldel0, q_ldel1, q_ldel20, q_ldel21, q_lkeep0, q_lkeep1, q_memb0, q_memb1, cat2, Nat.reduceBEq, decide_true, decide_false, decide_eq_true_eq, cond_true, cond_false, Bool.and_true, Bool.and_false, Bool.true_and, Bool.false_and, f_iadd, f_isub, f_imul, f_ishl, f_ishr, f_iushr, f_iand, f_ior, f_idiv, f_irem, f_ineg, f_i2b, f_i2s, f_ladd, f_lmul, c_eq, c_ne, c_lt, c_ge, c_gt, c_le, cc_eq, cc_ne, cc_lt, cc_ge, cc_gt, cc_le, rfo, aof, csum, Value.category, List.take, List.drop, List.reverse, List.reverseAux, List.map, List.sum_cons, List.sum_nil, List.cons_append, List.nil_append, Option.toList, List.mem_cons, List.not_mem_nil, List.length_cons, List.length_nil, reduceIte, Nat.reduceEqDiff, Nat.reduceAdd, Nat.reduceLeDiff, Nat.reduceLT, a_day, Nat.zero_ne_one, Nat.one_ne_zero, false_and, and_false, true_and, and_true, or_false, false_or, or_true, true_or, not_true_eq_false, not_false_eq_true, Nat.zero_add, Nat.add_zero, Nat.le_refl, Nat.lt_irrefl, Nat.zero_lt_succ, Nat.zero_le, forall_const, List.cons.injEq, Value.int.injEq, Value.ref.injEq, Value.long.injEq, and_assoc, exists_and_left, exists_eq_left']
    try simp only [forall_eq]
    refine ⟨(m_76 hg).1, (m_76 hg).2.1, N, by rw [f1 _ _ (by decide), hmany, hN], by omega, ?_⟩
    subst hB49
    unfold BX6_cut_49
    simp only [T_X6_within, T_X6_worth, T_X6_newSeam, i_const, i_lconst, i_iload, i_aload, i_lload, i_istore, i_astore, i_lstore, i_iinc, i_bin, i_div, i_un, i_i2l, i_l2i, i_lbin, i_lcmp, i_if, i_icmp, i_dup, i_dup_x1, i_dup2, i_pop, i_geti, i_getr, i_getd, i_puti, i_putz, i_putd, i_iald, i_bald, i_aald, i_iast, i_bast, i_alen, i_keep, i_ret, i_retz, i_reta, i_retl, i_retv, i_callv, i_callk, i_calls, i_mm, i_copy, i_under, i_undld, i_ldcs, i_sw, q_swc0, q_swc1, q_lg0, q_lg1, q_lent0, q_lent1, lset, lset2, q_lins0, q_lins1, q_ldel0, q_ldel1, q_ldel20, q_ldel21, q_lkeep0, q_lkeep1, q_memb0, q_memb1, cat2, Nat.reduceBEq, decide_true, decide_false, decide_eq_true_eq, cond_true, cond_false, Bool.and_true, Bool.and_false, Bool.true_and, Bool.false_and, f_iadd, f_isub, f_imul, f_ishl, f_ishr, f_iushr, f_iand, f_ior, f_idiv, f_irem, f_ineg, f_i2b, f_i2s, f_ladd, f_lmul, c_eq, c_ne, c_lt, c_ge, c_gt, c_le, cc_eq, cc_ne, cc_lt, cc_ge, cc_gt, cc_le, rfo, aof, csum, Value.category, List.take, List.drop, List.reverse, List.reverseAux, List.map, List.sum_cons, List.sum_nil, List.cons_append, List.nil_append, Option.toList, List.mem_cons, List.not_mem_nil, List.length_cons, List.length_nil, reduceIte, Nat.reduceEqDiff, Nat.reduceAdd, Nat.reduceLeDiff, Nat.reduceLT, a_day, Nat.zero_ne_one, Nat.one_ne_zero, false_and, and_false, true_and, and_true, or_false, false_or, or_true, true_or, not_true_eq_false, not_false_eq_true, Nat.zero_add, Nat.add_zero, Nat.le_refl, Nat.lt_irrefl, Nat.zero_lt_succ, Nat.zero_le, forall_const, List.cons.injEq, Value.int.injEq, Value.ref.injEq, Value.long.injEq, and_assoc, exists_and_left, exists_eq_left']
    try simp only [forall_eq]
    refine iE54 (16 - 0) _ _ _ ?_
    rw [hI54]
    refine ⟨0, by rw [← hp0]; rfl, rfl, by omega, rfl, ⟨?_, ?_, ?_, ?_, ?_, ?_⟩, ⟨b2t z1, b2t z2⟩, b2t z3⟩
    · rw [hN]
      exact (((((((hs1.mono fun a b q => by unfold YL at q; omega).set _ (by omega)).set _ (by omega)).set _ (by omega)).set _ (by omega)).set _ (by omega)).set _ (by omega)).set _ (by omega)
    · rw [ms_s, hN, nI_1]
    · rw [hN]; simp [mset_app]
    · rw [hN]; simp [mset_app]
    · rw [hN]; simp [mset_app]
    · rw [hN]; simp [mset_app]
def T_X6_unpick (g : WG) (as : List Value) (M : MM) (Q : Option Value → MM → Prop) : Prop := ∃ w, as = [.ref 76, .int w] ∧ okM M ∧ zM M ∧ ∀ M', Sm (YZ (dn (dm M))) M M' → zM M' → Q (some (.int (unpA (xm M) (dm M) w))) M'
set_option maxRecDepth 100000 in
set_option maxHeartbeats 2000000 in
theorem t_X6_unpick {l : Launch} {g : WG} (hg : Full g) : Ct l g yX6_unpick cX6_unpick 6 ((Option.some FieldType.int)) 8 (T_X6_unpick g) := by
  refine Ct.of (by decide) (fun as M Q h => ?_) (fun p e s m args below meth c as M Q h C => ?_)
  · obtain ⟨w, rfl, ho, hz, h⟩ := h; exact ⟨by simp, by simp [Value.category]⟩
  · obtain ⟨w, rfl, ho, hz, h⟩ := h
    have hn := ho.n
    have hmany := ho.many
    obtain ⟨Tn, hwf, htx, h9⟩ := id ho
    have hc := fun (c1 : 0 ≤ w ∧ w ≤ 1) M' hs hz' => by
      have := h M' hs hz'
      rwa [unpA, if_pos c1] at this
    have hf := fun (c1 : ¬ (0 ≤ w ∧ w ≤ 1)) => by
      have := h M Sm.rf hz
      rwa [unpA, if_neg c1] at this
    obtain ⟨I23, hI23⟩ : ∃ I : Nat → PP, I = (fun n lv st M' => ∃ k, lv = [(0, .ref 76), (1, .int w), (2, .int (unpN (xm M) (dm M) k).1), (3, .int (unpN (xm M) (dm M) k).2), (4, .int (nI k))] ∧ st = [] ∧ k ≤ dn (dm M) ∧ n = dn (dm M) - k ∧ Sm YL M M' ∧ 0 ≤ w ∧ w ≤ 1) := ⟨_, rfl⟩
    obtain ⟨E23, hE23⟩ : ∃ E : PP, E = (fun lv st M => ∃ n, I23 n lv st M) := ⟨_, rfl⟩
    have iE23 : ∀ n lv st M, I23 n lv st M → E23 lv st M := fun n lv st M h => by rw [hE23]; exact ⟨n, h⟩
    have L23 : Sj p l e 8 s m args below meth c 6 g (MQ below (cQc g Q) args s 0 0 (gA g)) 23 E23 := by
      rw [hE23]
      refine s_ex (s_loop I23 (fun K23 k23 => WX6_unpick_23 C (t_X6_within hg) (by decide) (t_X6_worth hg) (by decide) k23) ?_)
      intro n lv st M1 K23 hK23 hI; rw [hI23] at hI; obtain ⟨k, rfl, rfl, hk, rfl, hs, hcc⟩ := hI
      unfold BX6_unpick_23
      generalize hB57 : BX6_unpick_57 g Q (T_X6_within g) (T_X6_worth g) K23 = B57
      generalize hB88 : BX6_unpick_88 g Q (T_X6_within g) (T_X6_worth g) K23 = B88
      simp only [T_X6_within, T_X6_worth, i_const, i_lconst, i_iload, i_aload, i_lload, i_istore, i_astore, i_lstore, i_iinc, i_bin, i_div, i_un, i_i2l, i_l2i, i_lbin, i_lcmp, i_if, i_icmp, i_dup, i_dup_x1, i_dup2, i_pop, i_geti, i_getr, i_getd, i_puti, i_putz, i_putd, i_iald, i_bald, i_aald, i_iast, i_bast, i_alen, i_keep, i_ret, i_retz, i_reta, i_retl, i_retv, i_callv, i_callk, i_calls, i_mm, i_copy, i_under, i_undld, i_ldcs, i_sw, q_swc0, q_swc1, q_lg0, q_lg1, q_lent0, q_lent1, lset, lset2, q_lins0, q_lins1, q_ldel0, q_ldel1, q_ldel20, q_ldel21, q_lkeep0, q_lkeep1, q_memb0, q_memb1, cat2, Nat.reduceBEq, decide_true, decide_false, decide_eq_true_eq, cond_true, cond_false, Bool.and_true, Bool.and_false, Bool.true_and, Bool.false_and, f_iadd, f_isub, f_imul, f_ishl, f_ishr, f_iushr, f_iand, f_ior, f_idiv, f_irem, f_ineg, f_i2b, f_i2s, f_ladd, f_lmul, c_eq, c_ne, c_lt, c_ge, c_gt, c_le, cc_eq, cc_ne, cc_lt, cc_ge, cc_gt, cc_le, rfo, aof, csum, Value.category, List.take, List.drop, List.reverse, List.reverseAux, List.map, List.sum_cons, List.sum_nil, List.cons_append, List.nil_append, Option.toList, List.mem_cons, List.not_mem_nil, List.length_cons, List.length_nil, reduceIte, Nat.reduceEqDiff, Nat.reduceAdd, Nat.reduceLeDiff, Nat.reduceLT, a_day, Nat.zero_ne_one, Nat.one_ne_zero, false_and, and_false, true_and, and_true, or_false, false_or, or_true, true_or, not_true_eq_false, not_false_eq_true, Nat.zero_add, Nat.add_zero, Nat.le_refl, Nat.lt_irrefl, Nat.zero_lt_succ, Nat.zero_le, forall_const, List.cons.injEq, Value.int.injEq, Value.ref.injEq, Value.long.injEq, and_assoc, exists_and_left, exists_eq_left']
      try simp only [forall_eq]
      obtain ⟨ko, kd', kx⟩ := keepM hs YL88 ho
      have f1 : ∀ a b, a < 89 → M1 a b = M a b := fun a b ha => hs a b (by unfold YL; omega)
      rw [f1 76 2 (by decide), hmany, nI_leI (by omega) (by omega), nI_clamp (by omega)]
      refine ⟨m_76 hg, fun z => ?_, fun z => ?_⟩
      · have : k = dn (dm M) := by omega
        subst this
        subst hB88
        unfold BX6_unpick_88
        simp only [T_X6_within, T_X6_worth, i_const, i_lconst, i_iload, i_aload, i_lload, i_istore, i_astore, i_lstore, i_iinc, i_bin, i_div, i_un, i_i2l, i_l2i, i_lbin, i_lcmp, i_if, i_icmp, i_dup, i_dup_x1, i_dup2, i_pop, i_geti, i_getr, i_getd, i_puti, i_putz, i_putd, i_iald, i_bald, i_aald, i_iast, i_bast, i_alen, i_keep, i_ret, i_retz, i_reta, i_retl, i_retv, i_callv, i_callk, i_calls, i_mm, i_copy, i_under, i_undld, i_ldcs, i_sw, q_swc0, q_swc1, q_lg0, q_lg1, q_lent0, q_lent1, lset, lset2, q_lins0, q_lins1, q_ldel0, q_ldel1, q_ldel20, q_ldel21, q_lkeep0, q_lkeep1, q_memb0, q_memb1, cat2, Nat.reduceBEq, decide_true, decide_false, decide_eq_true_eq, cond_true, cond_false, Bool.and_true, Bool.and_false, Bool.true_and, Bool.false_and, f_iadd, f_isub, f_imul, f_ishl, f_ishr, f_iushr, f_iand, f_ior, f_idiv, f_irem, f_ineg, f_i2b, f_i2s, f_ladd, f_lmul, c_eq, c_ne, c_lt, c_ge, c_gt, c_le, cc_eq, cc_ne, cc_lt, cc_ge, cc_gt, cc_le, rfo, aof, csum, Value.category, List.take, List.drop, List.reverse, List.reverseAux, List.map, List.sum_cons, List.sum_nil, List.cons_append, List.nil_append, Option.toList, List.mem_cons, List.not_mem_nil, List.length_cons, List.length_nil, reduceIte, Nat.reduceEqDiff, Nat.reduceAdd, Nat.reduceLeDiff, Nat.reduceLT, a_day, Nat.zero_ne_one, Nat.one_ne_zero, false_and, and_false, true_and, and_true, or_false, false_or, or_true, true_or, not_true_eq_false, not_false_eq_true, Nat.zero_add, Nat.add_zero, Nat.le_refl, Nat.lt_irrefl, Nat.zero_lt_succ, Nat.zero_le, forall_const, List.cons.injEq, Value.int.injEq, Value.ref.injEq, Value.long.injEq, and_assoc, exists_and_left, exists_eq_left']
        try simp only [forall_eq]
        have hfin := hc hcc M1 (hs.mono fun a b q => YL_Z q) (zM_YL hs hz)
        unfold sel at hfin
        refine ⟨fun y => ?_, fun y => ?_⟩
        · rwa [if_neg y] at hfin
        · rwa [if_pos (Decidable.not_not.mp y)] at hfin
      · have hlt : k < dn (dm M) := by omega
        have fin : ∀ x y M2, Sm YL M M2 → (x, y) = unpN (xm M) (dm M) (k + 1) → K23 [(0, .ref 76), (1, .int w), (2, .int x), (3, .int y), (4, .int (nI (k + 1)))] [] M2 := by
          intro x y M2 hs2 hxy
          refine hK23 (dn (dm M) - (k + 1)) _ _ _ (by omega) ?_
          rw [hI23]
          exact ⟨k + 1, by rw [← hxy], rfl, by omega, rfl, hs2, hcc⟩
        have hd6 : M 83 k = dm M 6 k := (dm_s 6 (by decide) (by decide) hlt).symm
        rw [f1 83 k (by decide), hd6, nI_1]
        refine ⟨m_76 hg, m_83 hg, vm l_83 (by omega) (by decide), fun y => ?_, fun y => fin _ _ M1 hs ?_⟩
        · have hd2 : dm (mset M1 83 k 1) = upF (dm M) 6 k 1 := by rw [← kd']; exact dm_set (f := 6) (by decide) (by decide) (by rw [kd']; exact hlt)
          have hs2 : Sm (fun a b => a = 83 ∨ (89 ≤ a ∧ a ≤ 92)) M (mset M1 83 k 1) := (hs.mono fun a b q => by unfold YL at q; omega).set _ (Or.inl rfl)
          obtain ⟨ko2, kx2⟩ := okM.to hs2 hd2 (wfD_up6 hwf (Or.inr rfl)) htx h9 (by omega) (fun a b _ _ => by omega)
          refine ⟨m_76 hg, m_83 hg, vm l_83 (by omega) (by decide), (m_76 hg).1, (m_76 hg).2.1, ko2, fun M2 hs3 hl3 => ?_⟩
          rw [kx2, hd2]
          subst hB57
          unfold BX6_unpick_57
          simp only [T_X6_within, T_X6_worth, i_const, i_lconst, i_iload, i_aload, i_lload, i_istore, i_astore, i_lstore, i_iinc, i_bin, i_div, i_un, i_i2l, i_l2i, i_lbin, i_lcmp, i_if, i_icmp, i_dup, i_dup_x1, i_dup2, i_pop, i_geti, i_getr, i_getd, i_puti, i_putz, i_putd, i_iald, i_bald, i_aald, i_iast, i_bast, i_alen, i_keep, i_ret, i_retz, i_reta, i_retl, i_retv, i_callv, i_callk, i_calls, i_mm, i_copy, i_under, i_undld, i_ldcs, i_sw, q_swc0, q_swc1, q_lg0, q_lg1, q_lent0, q_lent1, lset, lset2, q_lins0, q_lins1, q_ldel0, q_ldel1, q_ldel20, q_ldel21, q_lkeep0, q_lkeep1, q_memb0, q_memb1, cat2, Nat.reduceBEq, decide_true, decide_false, decide_eq_true_eq, cond_true, cond_false, Bool.and_true, Bool.and_false, Bool.true_and, Bool.false_and, f_iadd, f_isub, f_imul, f_ishl, f_ishr, f_iushr, f_iand, f_ior, f_idiv, f_irem, f_ineg, f_i2b, f_i2s, f_ladd, f_lmul, c_eq, c_ne, c_lt, c_ge, c_gt, c_le, cc_eq, cc_ne, cc_lt, cc_ge, cc_gt, cc_le, rfo, aof, csum, Value.category, List.take, List.drop, List.reverse, List.reverseAux, List.map, List.sum_cons, List.sum_nil, List.cons_append, List.nil_append, Option.toList, List.mem_cons, List.not_mem_nil, List.length_cons, List.length_nil, reduceIte, Nat.reduceEqDiff, Nat.reduceAdd, Nat.reduceLeDiff, Nat.reduceLT, a_day, Nat.zero_ne_one, Nat.one_ne_zero, false_and, and_false, true_and, and_true, or_false, false_or, or_true, true_or, not_true_eq_false, not_false_eq_true, Nat.zero_add, Nat.add_zero, Nat.le_refl, Nat.lt_irrefl, Nat.zero_lt_succ, Nat.zero_le, forall_const, List.cons.injEq, Value.int.injEq, Value.ref.injEq, Value.long.injEq, and_assoc, exists_and_left, exists_eq_left']
          try simp only [forall_eq]
          rw [nI_1, nI_clamp (show k < 2 ^ 31 by omega)]
          have hs4 : Sm YL M (mset M2 83 k 0) := by
            intro a b hy
            rw [mset_app]
            split
            · next e =>
              split
              · next e2 => subst e; subst e2; rw [hd6, y]
              · next e2 => rw [hs3 a b hy, mset_app, if_pos e, if_neg e2]; exact hs a b hy
            · next e => rw [hs3 a b hy, mset_app, if_neg e]; exact hs a b hy
          refine ⟨m_76 hg, m_83 hg, vm l_83 (by omega) (by decide), fun u => fin _ _ _ hs4 ?_, fun u => fin _ _ _ hs4 ?_⟩
          · simp only [unpN, cup]; rw [if_pos y, if_pos u]
          · simp only [unpN, cup]; rw [if_pos y, if_neg u]
        · simp only [unpN]; rw [if_neg y]
      
    refine s_of (fun lv st M0 hs => ?_) (WX6_unpick_0 C (t_X6_within hg) (by decide) (t_X6_worth hg) (by decide) L23)
    obtain ⟨rfl, rfl, rfl⟩ := hs
    unfold BX6_unpick_0
    generalize hB6 : BX6_unpick_6 g Q (T_X6_within g) (T_X6_worth g) E23 = B6
    simp only [T_X6_within, T_X6_worth, i_const, i_lconst, i_iload, i_aload, i_lload, i_istore, i_astore, i_lstore, i_iinc, i_bin, i_div, i_un, i_i2l, i_l2i, i_lbin, i_lcmp, i_if, i_icmp, i_dup, i_dup_x1, i_dup2, i_pop, i_geti, i_getr, i_getd, i_puti, i_putz, i_putd, i_iald, i_bald, i_aald, i_iast, i_bast, i_alen, i_keep, i_ret, i_retz, i_reta, i_retl, i_retv, i_callv, i_callk, i_calls, i_mm, i_copy, i_under, i_undld, i_ldcs, i_sw, q_swc0, q_swc1, q_lg0, q_lg1, q_lent0, q_lent1, lset, lset2, q_lins0, q_lins1, q_ldel0, q_ldel1, q_ldel20, q_ldel21, q_lkeep0, q_lkeep1, q_memb0, q_memb1, cat2, Nat.reduceBEq, decide_true, decide_false, decide_eq_true_eq, cond_true, cond_false, Bool.and_true, Bool.and_false, Bool.true_and, Bool.false_and, f_iadd, f_isub, f_imul, f_ishl, f_ishr, f_iushr, f_iand, f_ior, f_idiv, f_irem, f_ineg, f_i2b, f_i2s, f_ladd, f_lmul, c_eq, c_ne, c_lt, c_ge, c_gt, c_le, cc_eq, cc_ne, cc_lt, cc_ge, cc_gt, cc_le, rfo, aof, csum, Value.category, List.take, List.drop, List.reverse, List.reverseAux, List.map, List.sum_cons, List.sum_nil, List.cons_append, List.nil_append, Option.toList, List.mem_cons, List.not_mem_nil, List.length_cons, List.length_nil, reduceIte, Nat.reduceEqDiff, Nat.reduceAdd, Nat.reduceLeDiff, Nat.reduceLT, a_day, Nat.zero_ne_one, Nat.one_ne_zero, false_and, and_false, true_and, and_true, or_false, false_or, or_true, true_or, not_true_eq_false, not_false_eq_true, Nat.zero_add, Nat.add_zero, Nat.le_refl, Nat.lt_irrefl, Nat.zero_lt_succ, Nat.zero_le, forall_const, List.cons.injEq, Value.int.injEq, Value.ref.injEq, Value.long.injEq, and_assoc, exists_and_left, exists_eq_left']
    try simp only [forall_eq]
    subst hB6
    unfold BX6_unpick_6
    generalize hB17 : BX6_unpick_17 g Q (T_X6_within g) (T_X6_worth g) E23 = B17
    simp only [T_X6_within, T_X6_worth, i_const, i_lconst, i_iload, i_aload, i_lload, i_istore, i_astore, i_lstore, i_iinc, i_bin, i_div, i_un, i_i2l, i_l2i, i_lbin, i_lcmp, i_if, i_icmp, i_dup, i_dup_x1, i_dup2, i_pop, i_geti, i_getr, i_getd, i_puti, i_putz, i_putd, i_iald, i_bald, i_aald, i_iast, i_bast, i_alen, i_keep, i_ret, i_retz, i_reta, i_retl, i_retv, i_callv, i_callk, i_calls, i_mm, i_copy, i_under, i_undld, i_ldcs, i_sw, q_swc0, q_swc1, q_lg0, q_lg1, q_lent0, q_lent1, lset, lset2, q_lins0, q_lins1, q_ldel0, q_ldel1, q_ldel20, q_ldel21, q_lkeep0, q_lkeep1, q_memb0, q_memb1, cat2, Nat.reduceBEq, decide_true, decide_false, decide_eq_true_eq, cond_true, cond_false, Bool.and_true, Bool.and_false, Bool.true_and, Bool.false_and, f_iadd, f_isub, f_imul, f_ishl, f_ishr, f_iushr, f_iand, f_ior, f_idiv, f_irem, f_ineg, f_i2b, f_i2s, f_ladd, f_lmul, c_eq, c_ne, c_lt, c_ge, c_gt, c_le, cc_eq, cc_ne, cc_lt, cc_ge, cc_gt, cc_le, rfo, aof, csum, Value.category, List.take, List.drop, List.reverse, List.reverseAux, List.map, List.sum_cons, List.sum_nil, List.cons_append, List.nil_append, Option.toList, List.mem_cons, List.not_mem_nil, List.length_cons, List.length_nil, reduceIte, Nat.reduceEqDiff, Nat.reduceAdd, Nat.reduceLeDiff, Nat.reduceLT, a_day, Nat.zero_ne_one, Nat.one_ne_zero, false_and, and_false, true_and, and_true, or_false, false_or, or_true, true_or, not_true_eq_false, not_false_eq_true, Nat.zero_add, Nat.add_zero, Nat.le_refl, Nat.lt_irrefl, Nat.zero_lt_succ, Nat.zero_le, forall_const, List.cons.injEq, Value.int.injEq, Value.ref.injEq, Value.long.injEq, and_assoc, exists_and_left, exists_eq_left']
    try simp only [forall_eq]
    refine ⟨fun z3 => ?_, fun z => hf (b2n (Decidable.not_not.mp z))⟩
    refine ⟨(m_76 hg).1, (m_76 hg).2.1, ho, fun M1 hs1 hl1 => ?_⟩
    subst hB17
    unfold BX6_unpick_17
    simp only [T_X6_within, T_X6_worth, i_const, i_lconst, i_iload, i_aload, i_lload, i_istore, i_astore, i_lstore, i_iinc, i_bin, i_div, i_un, i_i2l, i_l2i, i_lbin, i_lcmp, i_if, i_icmp, i_dup, i_dup_x1, i_dup2, i_pop, i_geti, i_getr, i_getd, i_puti, i_putz, i_putd, i_iald, i_bald, i_aald, i_iast, i_bast, i_alen, i_keep, i_ret, i_retz, i_reta, i_retl, i_retv, i_callv, i_callk, i_calls, i_mm, i_copy, i_under, i_undld, i_ldcs, i_sw, q_swc0, q_swc1, q_lg0, q_lg1, q_lent0, q_lent1, lset, lset2, q_lins0, q_lins1, q_ldel0, q_ldel1, q_ldel20, q_ldel21, q_lkeep0, q_lkeep1, q_memb0, q_memb1, cat2, Nat.reduceBEq, decide_true, decide_false, decide_eq_true_eq, cond_true, cond_false, Bool.and_true, Bool.and_false, Bool.true_and, Bool.false_and, f_iadd, f_isub, f_imul, f_ishl, f_ishr, f_iushr, f_iand, f_ior, f_idiv, f_irem, f_ineg, f_i2b, f_i2s, f_ladd, f_lmul, c_eq, c_ne, c_lt, c_ge, c_gt, c_le, cc_eq, cc_ne, cc_lt, cc_ge, cc_gt, cc_le, rfo, aof, csum, Value.category, List.take, List.drop, List.reverse, List.reverseAux, List.map, List.sum_cons, List.sum_nil, List.cons_append, List.nil_append, Option.toList, List.mem_cons, List.not_mem_nil, List.length_cons, List.length_nil, reduceIte, Nat.reduceEqDiff, Nat.reduceAdd, Nat.reduceLeDiff, Nat.reduceLT, a_day, Nat.zero_ne_one, Nat.one_ne_zero, false_and, and_false, true_and, and_true, or_false, false_or, or_true, true_or, not_true_eq_false, not_false_eq_true, Nat.zero_add, Nat.add_zero, Nat.le_refl, Nat.lt_irrefl, Nat.zero_lt_succ, Nat.zero_le, forall_const, List.cons.injEq, Value.int.injEq, Value.ref.injEq, Value.long.injEq, and_assoc, exists_and_left, exists_eq_left']
    try simp only [forall_eq]
    refine iE23 (dn (dm M0) - 0) _ _ _ ?_
    rw [hI23]
    exact ⟨0, rfl, rfl, by omega, rfl, hs1, b2t z3⟩
