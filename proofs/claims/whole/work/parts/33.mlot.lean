/-! ===== by lot: the model ===== -/
theorem nI_I {x : Int32} {n : Nat} (hn : n < 2 ^ 31) (h : x.toInt = (n : Int)) : x = nI n := Int32.toInt_inj.mp (by rw [h, nI_toInt hn])
theorem sumI_bd {f : Nat → Int32} {lo hi : Nat} (hlo : lo < 100000) (hhi : hi < 100000) : ∀ n, n ≤ 16 → (∀ h, h < n → -(lo : Int) ≤ (f h).toInt ∧ (f h).toInt ≤ hi) → -(n * lo : Int) ≤ (sumI f n).toInt ∧ (sumI f n).toInt ≤ n * hi
  | 0, _, _ => by simp [sumI]
  | n + 1, hn, h => by
    obtain ⟨a, b⟩ := sumI_bd (f := f) hlo hhi n (by omega) (fun h' hh => h h' (by omega))
    obtain ⟨c, d⟩ := h n (by omega)
    have e1 : (n : Int) * lo ≤ 1600000 := by
      have : n * lo ≤ 16 * 100000 := Nat.mul_le_mul (by omega) (by omega)
      rw [← Int.natCast_mul]; omega
    have e2 : (n : Int) * hi ≤ 1600000 := by
      have : n * hi ≤ 16 * 100000 := Nat.mul_le_mul (by omega) (by omega)
      rw [← Int.natCast_mul]; omega
    have e3 : ((n + 1 : Nat) : Int) * lo = n * lo + lo := by push_cast; rw [Int.add_mul]; omega
    have e4 : ((n + 1 : Nat) : Int) * hi = n * hi + hi := by push_cast; rw [Int.add_mul]; omega
    simp only [sumI]
    rw [Int32.toInt_add, e3, e4]
    generalize (n : Int) * lo = A at *
    generalize (n : Int) * hi = B at *
    have : ((sumI f n).toInt + (f n).toInt).bmod (2 ^ 32) = (sumI f n).toInt + (f n).toInt := by
      apply Int.bmod_eq_of_le <;> omega
    rw [this]
    omega
theorem pul_N {X : XV} {D : DV} {s h : Nat} (hw : wfS D s) : isN (pul X D s h) 100 := by
  have hb := bnd_N (rul X D 0 s (D 0 h)) (hi := 99) (by decide)
  have e99 : (99 : Int32) = nI 99 := rfl
  obtain ⟨w1, w2, w3, w4, -⟩ := hw
  have hl : isN (lenS' D s) 100 := by
    unfold lenS'
    rw [w1, w2, pk_sub w3, nI_1]
    exact ⟨_, by omega, rfl⟩
  unfold pul kindP
  rw [e99]
  split
  · exact half_N hb (by decide)
  · split
    · exact bnd_N _ (by decide)
    · split
      · split
        · exact ⟨0, by decide, rfl⟩
        · exact half_N hb (by decide)
      · split
        · exact bnd_N _ (by decide)
        · split
          · exact hl
          · exact hb
theorem pa_N {f v : Nat → Int32} {hh : Int32} {A : Nat} (hA : A < 10000) (hf : ∀ h, isN (f h) (A + 1)) (hv : ∀ h, isN (v h) 100) (h : Nat) : isN (pa f hh v h) (A + 100) := by
  unfold pa
  split
  · unfold upd
    split
    · obtain ⟨a, ha, ea⟩ := hf hh.toNatClampNeg
      obtain ⟨b, hb, eb⟩ := hv hh.toNatClampNeg
      exact ⟨a + b, by omega, by rw [ea, eb, nI_add]⟩
    · obtain ⟨a, ha, ea⟩ := hf h
      exact ⟨a, by omega, ea⟩
  · obtain ⟨a, ha, ea⟩ := hf h
    exact ⟨a, by omega, ea⟩
theorem strn_N {X : XV} {D : DV} : ∀ n, n ≤ 7 → (∀ s, s < n → wfS D s) → ∀ h, isN (strn X D n h) (198 * n + 1)
  | 0, _, _, h => ⟨0, by omega, rfl⟩
  | n + 1, hn, hw, h => by
    have ih := strn_N (X := X) (D := D) n (by omega) (fun s hs => hw s (by omega))
    simp only [strn]
    split
    · have h1 : ∀ h, isN (pa (strn X D n) (hA D n) (pul X D n) h) (198 * n + 99 + 1) := fun h => pa_N (by omega) ih (fun h => pul_N (hw n (by omega))) h
      obtain ⟨a, ha, ea⟩ := pa_N (by omega) h1 (fun h => pul_N (X := X) (h := h) (hw n (by omega))) (hh := hB D n) h
      exact ⟨a, by omega, ea⟩
    · obtain ⟨a, ha, ea⟩ := ih h
      exact ⟨a, by omega, ea⟩
theorem gld_bd {X : XV} {D : DV} {T h : Nat} (hw : wfD D T) (hj : -20 ≤ (D 0 h).toInt ∧ (D 0 h).toInt ≤ 20) : -((999 : Nat) : Int) ≤ (gld X D h).toInt ∧ (gld X D h).toInt ≤ ((20 : Nat) : Int) := by
  obtain ⟨k, hk, ek⟩ := strn_N (X := X) (D := D) (dn D) hw.2.1 (fun s hs => hw.2.2.1 s hs) h
  have hdn := hw.2.1
  have hk2 : k ≤ 1386 := by omega
  unfold gld
  rw [ek]
  have es : (D 0 h - nI k).toInt = (D 0 h).toInt - k := by
    rw [Int32.toInt_sub, nI_toInt (by omega)]
    apply Int.bmod_eq_of_le <;> omega
  have e9 : (-999 : Int32).toInt = -999 := rfl
  split
  · simp
  · split
    · rw [e9]; omega
    · next c =>
      rw [i_lt, es, e9] at c
      rw [es]; omega
theorem drj_bd (seed : Int32) (h : Nat) : -20 ≤ (drj seed h).toInt ∧ (drj seed h).toInt ≤ 20 := by
  unfold drj
  have hx : ∃ k, k < 2 ^ 31 ∧ ((drz seed (h + 1)).toUInt32 >>> ((9 : Int32).toUInt32 &&& Int32.toUInt32 31)).toInt32 = nI k := by
    have e := pk_ushr (drz seed (h + 1)) (9 : Int32) 9 (by decide)
    have hlt : (drz seed (h + 1)).toBitVec.toNat / 2 ^ 9 < 2 ^ 31 := by
      have := (drz seed (h + 1)).toBitVec.isLt
      omega
    refine ⟨(drz seed (h + 1)).toBitVec.toNat / 2 ^ 9, hlt, ?_⟩
    apply Int32.toBitVec_inj.mp
    apply BitVec.eq_of_toNat_eq
    rw [pk_tn (by omega)]
    rw [e]
  obtain ⟨k, hk, e⟩ := hx
  rw [e]
  have e41 : (41 : Int32) = nI 41 := rfl
  have e20 : (20 : Int32) = nI 20 := rfl
  dsimp only
  rw [e41, pk_rem hk (by decide) (by decide), e20, pk_sub_toInt (by omega) (by decide)]
  omega
theorem drwD_0 {D : DV} {seed : Int32} {h : Nat} (hh : h < 16) : drwD D seed 0 h = drj seed h := by simp [drwD, hh]
theorem wfD_drw {D : DV} {T : Nat} {seed : Int32} (h : wfD D T) : wfD (drwD D seed) T := by
  have e : ∀ f i, ¬ f = 0 → drwD D seed f i = D f i := fun f i hf => by simp [drwD, hf]
  have ed : dn (drwD D seed) = dn D := by unfold dn; rw [e _ _ (by decide)]
  refine ⟨by rw [ed, e _ _ (by decide)]; exact h.1, by rw [ed]; exact h.2.1, fun s hs => ?_, by rw [e _ _ (by decide)]; exact h.2.2.2⟩
  rw [ed] at hs
  have := h.2.2.1 s hs
  unfold wfS fi la at this ⊢
  rw [e 3 s (by decide), e 4 s (by decide), e 5 s (by decide), e 6 s (by decide), e 1 s (by decide), e 2 s (by decide)]
  exact this
def lotS (seed : Int32) : Int32 := sumI (drj seed) 16
/-- more than without any seam, told by less -/
theorem lot_gt {X : XV} {D : DV} {T : Nat} {seed : Int32} (h : wfD D T) : wor X (drwD D seed) - lotS seed ≤ 0 ↔ ¬ lotS seed < wor X (drwD D seed) := by
  obtain ⟨a, b⟩ := sumI_bd (f := gld X (drwD D seed)) (lo := 999) (hi := 20) (by decide) (by decide) 16 (by decide) (fun h' hh => gld_bd (wfD_drw h) (by rw [drwD_0 hh]; exact drj_bd seed h'))
  obtain ⟨c, d⟩ := sumI_bd (f := drj seed) (lo := 20) (hi := 20) (by decide) (by decide) 16 (by decide) (fun h' hh => drj_bd seed h')
  unfold wor lotS
  rw [i_le, i_lt, Int32.toInt_sub]
  have e0 : (0 : Int32).toInt = 0 := rfl
  have : ((sumI (gld X (drwD D seed)) 16).toInt - (sumI (drj seed) 16).toInt).bmod (2 ^ 32) = (sumI (gld X (drwD D seed)) 16).toInt - (sumI (drj seed) 16).toInt := by
    apply Int.bmod_eq_of_le <;> omega
  rw [this, e0]
  omega
def lotA (X : XV) (D : DV) (seed w : Int32) : Int32 := if w = 0 then wor X (drwD D seed) else wor X (drwD D seed) - lotS seed
def YD (a b : Nat) : Prop := (89 ≤ a ∧ a ≤ 92) ∨ a = 96
theorem dm_drw {M M' : MM} {seed : Int32} (hn : dn (dm M) ≤ 7) (hs : Sm (fun a b => (a = 77 ∧ b < 16) ∨ (89 ≤ a ∧ a ≤ 92) ∨ a = 96) M M') (hj : ∀ j, j < 16 → M' 77 j = drj seed j) : dm M' = drwD (dm M) seed := by
  funext f i
  rw [dm_n] at hn
  simp only [dm, drwD, hs 76 0 (by omega), hs 76 2 (by omega), hs 76 9 (by omega)]
  by_cases h0 : f = 0
  · subst h0
    by_cases hi : i < 16
    · simp [hi, hj i hi]
    · simp [hi]
  · by_cases h7 : f < 7
    · simp only [h0, h7, if_true, if_false, false_and]
      split
      · exact hs _ _ (by omega)
      · rfl
    · simp [h0, h7]
def T_X6_byLot (g : WG) (as : List Value) (M : MM) (Q : Option Value → MM → Prop) : Prop := ∃ seed w, as = [.ref 76, .int seed, .int w] ∧ okM M ∧ ∀ M', Sm YD M M' → Q (some (.int (lotA (xm M) (dm M) seed w))) M'
set_option maxRecDepth 100000 in
set_option maxHeartbeats 2000000 in
theorem t_X6_byLot {l : Launch} {g : WG} (hg : Full g) : Ct l g yX6_byLot cX6_byLot 7 ((Option.some FieldType.int)) 8 (T_X6_byLot g) := by
  refine Ct.of (by decide) (fun as M Q h => ?_) (fun p e s m args below meth c as M Q h C => ?_)
  · obtain ⟨seed, w, rfl, ho, h⟩ := h; exact ⟨by simp, by simp [Value.category]⟩
  · obtain ⟨seed, w, rfl, ho, h⟩ := h
    have hn := ho.n
    obtain ⟨Tn, hwf, htx, h9⟩ := id ho
    obtain ⟨I8, hI8⟩ : ∃ I : Nat → PP, I = (fun n lv st M' => ∃ k, lv = [(0, .ref 76), (2, .int w), (3, .int (drz seed k)), (4, .int (sumI (drj seed) k)), (5, .int (nI k))] ∧ st = [] ∧ k ≤ 16 ∧ n = 16 - k ∧ Sm (fun a b => (a = 77 ∧ b < 16) ∨ (89 ≤ a ∧ a ≤ 92) ∨ a = 96) M M' ∧ (∀ j, j < 16 → M' 77 j = if j < k then drj seed j else M 77 j) ∧ (∀ j, j < k → M' 96 j = M 77 j)) := ⟨_, rfl⟩
    obtain ⟨E8, hE8⟩ : ∃ E : PP, E = (fun lv st M => ∃ n, I8 n lv st M) := ⟨_, rfl⟩
    have iE8 : ∀ n lv st M, I8 n lv st M → E8 lv st M := fun n lv st M h => by rw [hE8]; exact ⟨n, h⟩
    obtain ⟨I83, hI83⟩ : ∃ I : Nat → PP, I = (fun n lv st M' => ∃ k, lv = [(0, .ref 76), (2, .int w), (4, .int (lotS seed)), (5, .int (wor (xm M) (drwD (dm M) seed))), (6, .int (nI k))] ∧ st = [] ∧ k ≤ 16 ∧ n = 16 - k ∧ Sm (fun a b => (a = 77 ∧ b < 16) ∨ (89 ≤ a ∧ a ≤ 92) ∨ a = 96) M M' ∧ (∀ j, j < k → M' 77 j = M 77 j) ∧ (∀ j, j < 16 → M' 96 j = M 77 j)) := ⟨_, rfl⟩
    obtain ⟨E83, hE83⟩ : ∃ E : PP, E = (fun lv st M => ∃ n, I83 n lv st M) := ⟨_, rfl⟩
    have iE83 : ∀ n lv st M, I83 n lv st M → E83 lv st M := fun n lv st M h => by rw [hE83]; exact ⟨n, h⟩
    have L83 : Sj p l e 8 s m args below meth c 7 g (MQ below (cQc g Q) args s 0 0 (gA g)) 83 E83 := by
      rw [hE83]
      refine s_ex (s_loop I83 (fun K83 k83 => WX6_byLot_83 C (t_X6_worth hg) (by decide) s_F k83) ?_)
      intro n lv st M1 K83 hK83 hI; rw [hI83] at hI; obtain ⟨k, rfl, rfl, hk, rfl, hs, hj, hw⟩ := hI
      unfold BX6_byLot_83
      generalize hB110 : BX6_byLot_110 g Q (T_X6_worth g) (fun _ _ _ => False) K83 = B110
      simp only [T_X6_worth, i_const, i_lconst, i_iload, i_aload, i_lload, i_istore, i_astore, i_lstore, i_iinc, i_bin, i_div, i_un, i_i2l, i_l2i, i_lbin, i_lcmp, i_if, i_icmp, i_dup, i_dup_x1, i_dup2, i_pop, i_geti, i_getr, i_getd, i_puti, i_putz, i_putd, i_iald, i_bald, i_aald, i_iast, i_bast, i_alen, i_keep, i_ret, i_retz, i_reta, i_retl, i_retv, i_callv, i_callk, i_calls, i_mm, i_copy, i_under, i_undld, i_ldcs, i_sw, q_swc0, q_swc1, q_lg0, q_lg1, q_lent0, q_lent1, lset, lset2, q_lins0, q_lins1, q_ldel0, q_ldel1, q_ldel20, q_ldel21, q_lkeep0, q_lkeep1, q_memb0, q_memb1, cat2, Nat.reduceBEq, decide_true, decide_false, decide_eq_true_eq, cond_true, cond_false, Bool.and_true, Bool.and_false, Bool.true_and, Bool.false_and, f_iadd, f_isub, f_imul, f_ishl, f_ishr, f_iushr, f_iand, f_ior, f_idiv, f_irem, f_ineg, f_i2b, f_i2s, f_ladd, f_lmul, c_eq, c_ne, c_lt, c_ge, c_gt, c_le, cc_eq, cc_ne, cc_lt, cc_ge, cc_gt, cc_le, rfo, aof, csum, Value.category, List.take, List.drop, List.reverse, List.reverseAux, List.map, List.sum_cons, List.sum_nil, List.cons_append, List.nil_append, Option.toList, List.mem_cons, List.not_mem_nil, List.length_cons, List.length_nil, reduceIte, Nat.reduceEqDiff, Nat.reduceAdd, Nat.reduceLeDiff, Nat.reduceLT, a_day, Nat.zero_ne_one, Nat.one_ne_zero, false_and, and_false, true_and, and_true, or_false, false_or, or_true, true_or, not_true_eq_false, not_false_eq_true, Nat.zero_add, Nat.add_zero, Nat.le_refl, Nat.lt_irrefl, Nat.zero_lt_succ, Nat.zero_le, forall_const, List.cons.injEq, Value.int.injEq, Value.ref.injEq, Value.long.injEq, and_assoc, exists_and_left, exists_eq_left']
      try simp only [forall_eq]
      rw [show (16 : Int32) = nI 16 from rfl, nI_leI (by decide) (by omega)]
      refine ⟨fun z => ?_, fun z => ?_⟩
      · have : k = 16 := by omega
        subst this
        have hfin := h M1 (by
          intro a b hy
          by_cases e : a = 77 ∧ b < 16
          · obtain ⟨rfl, hb⟩ := e; exact hj b hb
          · exact hs a b (by unfold YD at hy; omega))
        unfold lotA at hfin
        subst hB110
        unfold BX6_byLot_110
        simp only [T_X6_worth, i_const, i_lconst, i_iload, i_aload, i_lload, i_istore, i_astore, i_lstore, i_iinc, i_bin, i_div, i_un, i_i2l, i_l2i, i_lbin, i_lcmp, i_if, i_icmp, i_dup, i_dup_x1, i_dup2, i_pop, i_geti, i_getr, i_getd, i_puti, i_putz, i_putd, i_iald, i_bald, i_aald, i_iast, i_bast, i_alen, i_keep, i_ret, i_retz, i_reta, i_retl, i_retv, i_callv, i_callk, i_calls, i_mm, i_copy, i_under, i_undld, i_ldcs, i_sw, q_swc0, q_swc1, q_lg0, q_lg1, q_lent0, q_lent1, lset, lset2, q_lins0, q_lins1, q_ldel0, q_ldel1, q_ldel20, q_ldel21, q_lkeep0, q_lkeep1, q_memb0, q_memb1, cat2, Nat.reduceBEq, decide_true, decide_false, decide_eq_true_eq, cond_true, cond_false, Bool.and_true, Bool.and_false, Bool.true_and, Bool.false_and, f_iadd, f_isub, f_imul, f_ishl, f_ishr, f_iushr, f_iand, f_ior, f_idiv, f_irem, f_ineg, f_i2b, f_i2s, f_ladd, f_lmul, c_eq, c_ne, c_lt, c_ge, c_gt, c_le, cc_eq, cc_ne, cc_lt, cc_ge, cc_gt, cc_le, rfo, aof, csum, Value.category, List.take, List.drop, List.reverse, List.reverseAux, List.map, List.sum_cons, List.sum_nil, List.cons_append, List.nil_append, Option.toList, List.mem_cons, List.not_mem_nil, List.length_cons, List.length_nil, reduceIte, Nat.reduceEqDiff, Nat.reduceAdd, Nat.reduceLeDiff, Nat.reduceLT, a_day, Nat.zero_ne_one, Nat.one_ne_zero, false_and, and_false, true_and, and_true, or_false, false_or, or_true, true_or, not_true_eq_false, not_false_eq_true, Nat.zero_add, Nat.add_zero, Nat.le_refl, Nat.lt_irrefl, Nat.zero_lt_succ, Nat.zero_le, forall_const, List.cons.injEq, Value.int.injEq, Value.ref.injEq, Value.long.injEq, and_assoc, exists_and_left, exists_eq_left']
        try simp only [forall_eq]
        refine ⟨fun y => ?_, fun y => ?_⟩
        · rwa [if_neg y] at hfin
        · rwa [if_pos (Decidable.not_not.mp y)] at hfin
      · have hlt : k < 16 := by omega
        rw [nI_clamp (by omega), hw k hlt, nI_1]
        refine ⟨m_76 hg, m_76 hg, m_96 hg, vm l_96 hlt (by decide), m_77 hg, vm l_77 hlt (by decide), hK83 (16 - (k + 1)) _ _ _ (by omega) ?_⟩
        rw [hI83]
        refine ⟨k + 1, rfl, rfl, by omega, rfl, hs.set _ (Or.inl ⟨rfl, hlt⟩), fun j hj' => ?_, fun j hj' => ?_⟩
        · by_cases e : j = k
          · subst e; rw [ms_s]
          · rw [ms_j e]; exact hj j (by omega)
        · rw [ms_q (by decide)]; exact hw j hj'
    have L8 : Sj p l e 8 s m args below meth c 7 g (MQ below (cQc g Q) args s 0 0 (gA g)) 8 E8 := by
      rw [hE8]
      refine s_ex (s_loop I8 (fun K8 k8 => WX6_byLot_8 C (t_X6_worth hg) (by decide) k8 L83) ?_)
      intro n lv st M1 K8 hK8 hI; rw [hI8] at hI; obtain ⟨k, rfl, rfl, hk, rfl, hs, hj, hw⟩ := hI
      unfold BX6_byLot_8
      generalize hB74 : BX6_byLot_74 g Q (T_X6_worth g) K8 E83 = B74
      simp only [T_X6_worth, i_const, i_lconst, i_iload, i_aload, i_lload, i_istore, i_astore, i_lstore, i_iinc, i_bin, i_div, i_un, i_i2l, i_l2i, i_lbin, i_lcmp, i_if, i_icmp, i_dup, i_dup_x1, i_dup2, i_pop, i_geti, i_getr, i_getd, i_puti, i_putz, i_putd, i_iald, i_bald, i_aald, i_iast, i_bast, i_alen, i_keep, i_ret, i_retz, i_reta, i_retl, i_retv, i_callv, i_callk, i_calls, i_mm, i_copy, i_under, i_undld, i_ldcs, i_sw, q_swc0, q_swc1, q_lg0, q_lg1, q_lent0, q_lent1, lset, lset2, q_lins0, q_lins1, q_ldel0, q_ldel1, q_ldel20, q_ldel21, q_lkeep0, q_lkeep1, q_memb0, q_memb1, cat2, Nat.reduceBEq, decide_true, decide_false, decide_eq_true_eq, cond_true, cond_false, Bool.and_true, Bool.and_false, Bool.true_and, Bool.false_and, f_iadd, f_isub, f_imul, f_ishl, f_ishr, f_iushr, f_iand, f_ior, f_idiv, f_irem, f_ineg, f_i2b, f_i2s, f_ladd, f_lmul, c_eq, c_ne, c_lt, c_ge, c_gt, c_le, cc_eq, cc_ne, cc_lt, cc_ge, cc_gt, cc_le, rfo, aof, csum, Value.category, List.take, List.drop, List.reverse, List.reverseAux, List.map, List.sum_cons, List.sum_nil, List.cons_append, List.nil_append, Option.toList, List.mem_cons, List.not_mem_nil, List.length_cons, List.length_nil, reduceIte, Nat.reduceEqDiff, Nat.reduceAdd, Nat.reduceLeDiff, Nat.reduceLT, a_day, Nat.zero_ne_one, Nat.one_ne_zero, false_and, and_false, true_and, and_true, or_false, false_or, or_true, true_or, not_true_eq_false, not_false_eq_true, Nat.zero_add, Nat.add_zero, Nat.le_refl, Nat.lt_irrefl, Nat.zero_lt_succ, Nat.zero_le, forall_const, List.cons.injEq, Value.int.injEq, Value.ref.injEq, Value.long.injEq, and_assoc, exists_and_left, exists_eq_left']
      try simp only [forall_eq]
      rw [show (16 : Int32) = nI 16 from rfl, nI_leI (by decide) (by omega)]
      refine ⟨fun z => ?_, fun z => ?_⟩
      · have : k = 16 := by omega
        subst this
        have hd := dm_drw hn hs (fun j hj' => by rw [hj j hj', if_pos hj'])
        obtain ⟨ko, kx⟩ := okM.to hs hd (wfD_drw hwf) htx h9 (by omega) (fun a b _ _ => by omega)
        subst hB74
        unfold BX6_byLot_74
        generalize hB78 : BX6_byLot_78 g Q (T_X6_worth g) K8 E83 = B78
        simp only [T_X6_worth, i_const, i_lconst, i_iload, i_aload, i_lload, i_istore, i_astore, i_lstore, i_iinc, i_bin, i_div, i_un, i_i2l, i_l2i, i_lbin, i_lcmp, i_if, i_icmp, i_dup, i_dup_x1, i_dup2, i_pop, i_geti, i_getr, i_getd, i_puti, i_putz, i_putd, i_iald, i_bald, i_aald, i_iast, i_bast, i_alen, i_keep, i_ret, i_retz, i_reta, i_retl, i_retv, i_callv, i_callk, i_calls, i_mm, i_copy, i_under, i_undld, i_ldcs, i_sw, q_swc0, q_swc1, q_lg0, q_lg1, q_lent0, q_lent1, lset, lset2, q_lins0, q_lins1, q_ldel0, q_ldel1, q_ldel20, q_ldel21, q_lkeep0, q_lkeep1, q_memb0, q_memb1, cat2, Nat.reduceBEq, decide_true, decide_false, decide_eq_true_eq, cond_true, cond_false, Bool.and_true, Bool.and_false, Bool.true_and, Bool.false_and, f_iadd, f_isub, f_imul, f_ishl, f_ishr, f_iushr, f_iand, f_ior, f_idiv, f_irem, f_ineg, f_i2b, f_i2s, f_ladd, f_lmul, c_eq, c_ne, c_lt, c_ge, c_gt, c_le, cc_eq, cc_ne, cc_lt, cc_ge, cc_gt, cc_le, rfo, aof, csum, Value.category, List.take, List.drop, List.reverse, List.reverseAux, List.map, List.sum_cons, List.sum_nil, List.cons_append, List.nil_append, Option.toList, List.mem_cons, List.not_mem_nil, List.length_cons, List.length_nil, reduceIte, Nat.reduceEqDiff, Nat.reduceAdd, Nat.reduceLeDiff, Nat.reduceLT, a_day, Nat.zero_ne_one, Nat.one_ne_zero, false_and, and_false, true_and, and_true, or_false, false_or, or_true, true_or, not_true_eq_false, not_false_eq_true, Nat.zero_add, Nat.add_zero, Nat.le_refl, Nat.lt_irrefl, Nat.zero_lt_succ, Nat.zero_le, forall_const, List.cons.injEq, Value.int.injEq, Value.ref.injEq, Value.long.injEq, and_assoc, exists_and_left, exists_eq_left']
        try simp only [forall_eq]
        refine ⟨(m_76 hg).1, (m_76 hg).2.1, ko, fun M2 hs2 hl2 => ?_⟩
        rw [kx, hd]
        subst hB78
        unfold BX6_byLot_78
        simp only [T_X6_worth, i_const, i_lconst, i_iload, i_aload, i_lload, i_istore, i_astore, i_lstore, i_iinc, i_bin, i_div, i_un, i_i2l, i_l2i, i_lbin, i_lcmp, i_if, i_icmp, i_dup, i_dup_x1, i_dup2, i_pop, i_geti, i_getr, i_getd, i_puti, i_putz, i_putd, i_iald, i_bald, i_aald, i_iast, i_bast, i_alen, i_keep, i_ret, i_retz, i_reta, i_retl, i_retv, i_callv, i_callk, i_calls, i_mm, i_copy, i_under, i_undld, i_ldcs, i_sw, q_swc0, q_swc1, q_lg0, q_lg1, q_lent0, q_lent1, lset, lset2, q_lins0, q_lins1, q_ldel0, q_ldel1, q_ldel20, q_ldel21, q_lkeep0, q_lkeep1, q_memb0, q_memb1, cat2, Nat.reduceBEq, decide_true, decide_false, decide_eq_true_eq, cond_true, cond_false, Bool.and_true, Bool.and_false, Bool.true_and, Bool.false_and, f_iadd, f_isub, f_imul, f_ishl, f_ishr, f_iushr, f_iand, f_ior, f_idiv, f_irem, f_ineg, f_i2b, f_i2s, f_ladd, f_lmul, c_eq, c_ne, c_lt, c_ge, c_gt, c_le, cc_eq, cc_ne, cc_lt, cc_ge, cc_gt, cc_le, rfo, aof, csum, Value.category, List.take, List.drop, List.reverse, List.reverseAux, List.map, List.sum_cons, List.sum_nil, List.cons_append, List.nil_append, Option.toList, List.mem_cons, List.not_mem_nil, List.length_cons, List.length_nil, reduceIte, Nat.reduceEqDiff, Nat.reduceAdd, Nat.reduceLeDiff, Nat.reduceLT, a_day, Nat.zero_ne_one, Nat.one_ne_zero, false_and, and_false, true_and, and_true, or_false, false_or, or_true, true_or, not_true_eq_false, not_false_eq_true, Nat.zero_add, Nat.add_zero, Nat.le_refl, Nat.lt_irrefl, Nat.zero_lt_succ, Nat.zero_le, forall_const, List.cons.injEq, Value.int.injEq, Value.ref.injEq, Value.long.injEq, and_assoc, exists_and_left, exists_eq_left']
        try simp only [forall_eq]
        refine iE83 (16 - 0) _ _ _ ?_
        rw [hI83]
        refine ⟨0, rfl, rfl, by omega, rfl, hs.tr (hs2.mono fun a b q => by unfold YL at q; omega), fun j hj => absurd hj (by omega), fun j hj' => ?_⟩
        rw [hs2 _ _ (by unfold YL; omega)]
        exact hw j hj'
      · have hlt : k < 16 := by omega
        rw [nI_clamp (by omega), hj k hlt, if_neg (by omega), nI_1]
        refine ⟨m_76 hg, m_76 hg, m_77 hg, vm l_77 hlt (by decide), m_96 hg, vm l_96 hlt (by decide), m_76 hg, by decide, m_77 hg, vm l_77 hlt (by decide), m_76 hg, m_77 hg, vm l_77 hlt (by decide), ?_⟩
        rw [ms_s]
        refine hK8 (16 - (k + 1)) _ _ _ (by omega) ?_
        rw [hI8]
        refine ⟨k + 1, rfl, rfl, by omega, rfl, (hs.set _ (Or.inr (Or.inr rfl))).set _ (Or.inl ⟨rfl, hlt⟩), fun j hj' => ?_, fun j hj' => ?_⟩
        · by_cases e : j = k
          · subst e; rw [ms_s, if_pos (by omega)]; rfl
          · rw [ms_j e, ms_q (by decide), hj j hj']
            have : j < k + 1 ↔ j < k := by omega
            simp only [this]
        · rw [ms_q (by decide)]
          by_cases e : j = k
          · subst e; rw [ms_s]
          · rw [ms_j e]; exact hw j (by omega)
    refine s_of (fun lv st M0 hs => ?_) (WX6_byLot_0 C (t_X6_worth hg) (by decide) L8 L83)
    obtain ⟨rfl, rfl, rfl⟩ := hs
    unfold BX6_byLot_0
    simp only [T_X6_worth, i_const, i_lconst, i_iload, i_aload, i_lload, i_istore, i_astore, i_lstore, i_iinc, i_bin, i_div, i_un, i_i2l, i_l2i, i_lbin, i_lcmp, i_if, i_icmp, i_dup, i_dup_x1, i_dup2, i_pop, i_geti, i_getr, i_getd, i_puti, i_putz, i_putd, i_iald, i_bald, i_aald, i_iast, i_bast, i_alen, i_keep, i_ret, i_retz, i_reta, i_retl, i_retv, i_callv, i_callk, i_calls, i_mm, i_copy, i_under, i_undld, i_ldcs, i_sw, q_swc0, q_swc1, q_lg0, q_lg1, q_lent0, q_lent1, lset, lset2, q_lins0, q_lins1, q_ldel0, q_ldel1, q_ldel20, q_ldel21, q_lkeep0, q_lkeep1, q_memb0, q_memb1, cat2, Nat.reduceBEq, decide_true, decide_false, decide_eq_true_eq, cond_true, cond_false, Bool.and_true, Bool.and_false, Bool.true_and, Bool.false_and, f_iadd, f_isub, f_imul, f_ishl, f_ishr, f_iushr, f_iand, f_ior, f_idiv, f_irem, f_ineg, f_i2b, f_i2s, f_ladd, f_lmul, c_eq, c_ne, c_lt, c_ge, c_gt, c_le, cc_eq, cc_ne, cc_lt, cc_ge, cc_gt, cc_le, rfo, aof, csum, Value.category, List.take, List.drop, List.reverse, List.reverseAux, List.map, List.sum_cons, List.sum_nil, List.cons_append, List.nil_append, Option.toList, List.mem_cons, List.not_mem_nil, List.length_cons, List.length_nil, reduceIte, Nat.reduceEqDiff, Nat.reduceAdd, Nat.reduceLeDiff, Nat.reduceLT, a_day, Nat.zero_ne_one, Nat.one_ne_zero, false_and, and_false, true_and, and_true, or_false, false_or, or_true, true_or, not_true_eq_false, not_false_eq_true, Nat.zero_add, Nat.add_zero, Nat.le_refl, Nat.lt_irrefl, Nat.zero_lt_succ, Nat.zero_le, forall_const, List.cons.injEq, Value.int.injEq, Value.ref.injEq, Value.long.injEq, and_assoc, exists_and_left, exists_eq_left']
    try simp only [forall_eq]
    refine iE8 (16 - 0) _ _ _ ?_
    rw [hI8]
    exact ⟨0, rfl, rfl, by omega, rfl, Sm.rf, fun j _ => by rw [if_neg (by omega)], fun j hj => absurd hj (by omega)⟩
def T_X6_drawn (g : WG) (as : List Value) (M : MM) (Q : Option Value → MM → Prop) : Prop := ∃ seed, as = [.ref 76, .int seed] ∧ okM M ∧ ∀ M', Sm YD M M' → Q (some (.int (wor (xm M) (drwD (dm M) seed)))) M'
set_option maxRecDepth 100000 in
set_option maxHeartbeats 1000000 in
theorem t_X6_drawn {l : Launch} {g : WG} (hg : Full g) : Ct l g yX6_drawn cX6_drawn 2 ((Option.some FieldType.int)) 9 (T_X6_drawn g) := by
  refine Ct.of (by decide) (fun as M Q h => ?_) (fun p e s m args below meth c as M Q h C => ?_)
  · obtain ⟨seed, rfl, ho, h⟩ := h; exact ⟨by simp, by simp [Value.category]⟩
  · obtain ⟨seed, rfl, ho, h⟩ := h
    refine s_of (fun lv st M0 hs => ?_) (WX6_drawn_0 C (t_X6_byLot hg) (by decide))
    obtain ⟨rfl, rfl, rfl⟩ := hs
    unfold BX6_drawn_0
    simp only [T_X6_byLot, i_const, i_lconst, i_iload, i_aload, i_lload, i_istore, i_astore, i_lstore, i_iinc, i_bin, i_div, i_un, i_i2l, i_l2i, i_lbin, i_lcmp, i_if, i_icmp, i_dup, i_dup_x1, i_dup2, i_pop, i_geti, i_getr, i_getd, i_puti, i_putz, i_putd, i_iald, i_bald, i_aald, i_iast, i_bast, i_alen, i_keep, i_ret, i_retz, i_reta, i_retl, i_retv, i_callv, i_callk, i_calls, i_mm, i_copy, i_under, i_undld, i_ldcs, i_sw, q_swc0, q_swc1, q_lg0, q_lg1, q_lent0, q_lent1, lset, lset2, q_lins0, q_lins1, q_ldel0, q_ldel1, q_ldel20, q_ldel21, q_lkeep0, q_lkeep1, q_memb0, q_memb1, cat2, Nat.reduceBEq, decide_true, decide_false, decide_eq_true_eq, cond_true, cond_false, Bool.and_true, Bool.and_false, Bool.true_and, Bool.false_and, f_iadd, f_isub, f_imul, f_ishl, f_ishr, f_iushr, f_iand, f_ior, f_idiv, f_irem, f_ineg, f_i2b, f_i2s, f_ladd, f_lmul, c_eq, c_ne, c_lt, c_ge, c_gt, c_le, cc_eq, cc_ne, cc_lt, cc_ge, cc_gt, cc_le, rfo, aof, csum, Value.category, List.take, List.drop, List.reverse, List.reverseAux, List.map, List.sum_cons, List.sum_nil, List.cons_append, List.nil_append, Option.toList, List.mem_cons, List.not_mem_nil, List.length_cons, List.length_nil, reduceIte, Nat.reduceEqDiff, Nat.reduceAdd, Nat.reduceLeDiff, Nat.reduceLT, a_day, Nat.zero_ne_one, Nat.one_ne_zero, false_and, and_false, true_and, and_true, or_false, false_or, or_true, true_or, not_true_eq_false, not_false_eq_true, Nat.zero_add, Nat.add_zero, Nat.le_refl, Nat.lt_irrefl, Nat.zero_lt_succ, Nat.zero_le, forall_const, List.cons.injEq, Value.int.injEq, Value.ref.injEq, Value.long.injEq, and_assoc, exists_and_left, exists_eq_left']
    try simp only [forall_eq]
    exact ⟨(m_76 hg).1, (m_76 hg).2.1, ho, fun M' hs => h M' hs⟩
/-- of so many seeds, by how many the day is more -/
def chN (X : XV) (D : DV) (seed : Int32) : Nat → Nat
  | 0 => 0
  | k + 1 => chN X D seed k + if lotS (seed + nI k) < wor X (drwD D (seed + nI k)) then 1 else 0
theorem chN_le (X : XV) (D : DV) (seed : Int32) : ∀ k, chN X D seed k ≤ k
  | 0 => Nat.le_refl _
  | k + 1 => by
    have := chN_le X D seed k
    simp only [chN]
    split <;> omega
def chA (X : XV) (D : DV) (seed m part : Int32) : Int64 := if (1 ≤ m ∧ m ≤ 20) ∧ (0 ≤ part ∧ part ≤ 1) then (if part = 0 then (nI (chN X D seed m.toNatClampNeg / Nat.gcd (chN X D seed m.toNatClampNeg) m.toNatClampNeg)).toInt64 else (nI (m.toNatClampNeg / Nat.gcd (chN X D seed m.toNatClampNeg) m.toNatClampNeg)).toInt64) else -4611686018427387904
def T_X6_chance (g : WG) (as : List Value) (M : MM) (Q : Option Value → MM → Prop) : Prop := ∃ seed m part, as = [.ref 76, .int seed, .int m, .int part] ∧ okM M ∧ ∀ M', Sm YD M M' → Q (some (.long (chA (xm M) (dm M) seed m part))) M'
set_option maxRecDepth 100000 in
set_option maxHeartbeats 2000000 in
theorem t_X6_chance {l : Launch} {g : WG} (hg : Full g) : Ct l g yX6_chance cX6_chance 8 ((Option.some FieldType.long)) 9 (T_X6_chance g) := by
  refine Ct.of (by decide) (fun as M Q h => ?_) (fun p e s m args below meth c as M Q h C => ?_)
  · obtain ⟨seed, m0, part, rfl, ho, h⟩ := h; exact ⟨by simp, by simp [Value.category]⟩
  · obtain ⟨seed, m0, part, rfl, ho, h⟩ := h
    have hn := ho.n
    obtain ⟨Tn, hwf, htx, h9⟩ := id ho
    have YD88 : ∀ a j, YD a j → 88 ≤ a := fun a j q => by unfold YD at q; omega
    obtain ⟨I29, hI29⟩ : ∃ I : Nat → PP, I = (fun n lv st M' => ∃ k mm, m0 = nI mm ∧ 1 ≤ mm ∧ mm ≤ 20 ∧ (0 ≤ part ∧ part ≤ 1) ∧ lv = [(0, .ref 76), (1, .int seed), (2, .int (nI mm)), (3, .int part), (4, .int (nI (chN (xm M) (dm M) seed k))), (5, .int (nI k))] ∧ st = [] ∧ k ≤ mm ∧ n = mm - k ∧ Sm YD M M') := ⟨_, rfl⟩
    obtain ⟨E29, hE29⟩ : ∃ E : PP, E = (fun lv st M => ∃ n, I29 n lv st M) := ⟨_, rfl⟩
    have iE29 : ∀ n lv st M, I29 n lv st M → E29 lv st M := fun n lv st M h => by rw [hE29]; exact ⟨n, h⟩
    obtain ⟨I63, hI63⟩ : ∃ I : Nat → PP, I = (fun n lv st M' => ∃ x mm, m0 = nI mm ∧ 1 ≤ mm ∧ mm ≤ 20 ∧ (0 ≤ part ∧ part ≤ 1) ∧ lv = [(2, .int (nI mm)), (3, .int part), (4, .int (nI (chN (xm M) (dm M) seed mm))), (5, .int (nI x)), (6, .int (nI n))] ∧ st = [] ∧ x ≤ 20 ∧ n ≤ 20 ∧ Nat.gcd x n = Nat.gcd (chN (xm M) (dm M) seed mm) mm ∧ Sm YD M M') := ⟨_, rfl⟩
    obtain ⟨E63, hE63⟩ : ∃ E : PP, E = (fun lv st M => ∃ n, I63 n lv st M) := ⟨_, rfl⟩
    have iE63 : ∀ n lv st M, I63 n lv st M → E63 lv st M := fun n lv st M h => by rw [hE63]; exact ⟨n, h⟩
    have L63 : Sj p l e 9 s m args below meth c 8 g (MQ below (cQc g Q) args s 0 0 (gA g)) 63 E63 := by
      rw [hE63]
      refine s_ex (s_loop I63 (fun K63 k63 => WX6_chance_63 C (t_X6_within hg) (by decide) (t_X6_byLot hg) (by decide) s_F k63) ?_)
      intro n lv st M1 K63 hK63 hI; rw [hI63] at hI; obtain ⟨x, mm, hme, hm1, hm2, hp01, rfl, rfl, hx, hn20, hgc, hs⟩ := hI
      unfold BX6_chance_63
      generalize hB86 : BX6_chance_86 g Q (T_X6_within g) (T_X6_byLot g) (fun _ _ _ => False) K63 = B86
      simp only [T_X6_within, T_X6_byLot, i_const, i_lconst, i_iload, i_aload, i_lload, i_istore, i_astore, i_lstore, i_iinc, i_bin, i_div, i_un, i_i2l, i_l2i, i_lbin, i_lcmp, i_if, i_icmp, i_dup, i_dup_x1, i_dup2, i_pop, i_geti, i_getr, i_getd, i_puti, i_putz, i_putd, i_iald, i_bald, i_aald, i_iast, i_bast, i_alen, i_keep, i_ret, i_retz, i_reta, i_retl, i_retv, i_callv, i_callk, i_calls, i_mm, i_copy, i_under, i_undld, i_ldcs, i_sw, q_swc0, q_swc1, q_lg0, q_lg1, q_lent0, q_lent1, lset, lset2, q_lins0, q_lins1, q_ldel0, q_ldel1, q_ldel20, q_ldel21, q_lkeep0, q_lkeep1, q_memb0, q_memb1, cat2, Nat.reduceBEq, decide_true, decide_false, decide_eq_true_eq, cond_true, cond_false, Bool.and_true, Bool.and_false, Bool.true_and, Bool.false_and, f_iadd, f_isub, f_imul, f_ishl, f_ishr, f_iushr, f_iand, f_ior, f_idiv, f_irem, f_ineg, f_i2b, f_i2s, f_ladd, f_lmul, c_eq, c_ne, c_lt, c_ge, c_gt, c_le, cc_eq, cc_ne, cc_lt, cc_ge, cc_gt, cc_le, rfo, aof, csum, Value.category, List.take, List.drop, List.reverse, List.reverseAux, List.map, List.sum_cons, List.sum_nil, List.cons_append, List.nil_append, Option.toList, List.mem_cons, List.not_mem_nil, List.length_cons, List.length_nil, reduceIte, Nat.reduceEqDiff, Nat.reduceAdd, Nat.reduceLeDiff, Nat.reduceLT, a_day, Nat.zero_ne_one, Nat.one_ne_zero, false_and, and_false, true_and, and_true, or_false, false_or, or_true, true_or, not_true_eq_false, not_false_eq_true, Nat.zero_add, Nat.add_zero, Nat.le_refl, Nat.lt_irrefl, Nat.zero_lt_succ, Nat.zero_le, forall_const, List.cons.injEq, Value.int.injEq, Value.ref.injEq, Value.long.injEq, and_assoc, exists_and_left, exists_eq_left']
      try simp only [forall_eq]
      refine ⟨fun z => ?_, fun z => ?_⟩
      · have n0 : n = 0 := (nI_eq (b := 0) (by omega) (by decide)).mp z
        subst n0
        rw [Nat.gcd_zero_right] at hgc
        have hgp : 0 < Nat.gcd (chN (xm M) (dm M) seed mm) mm := Nat.gcd_pos_of_pos_right _ (by omega)
        have hcl := chN_le (xm M) (dm M) seed mm
        have hfin := h M1 hs
        rw [chA, if_pos ⟨by rw [hme]; exact ⟨nI_le (a := 1) hm1 (by omega), nI_le (b := 20) hm2 (by decide)⟩, hp01⟩, hme, nI_clamp (by omega), ← hgc] at hfin
        subst hB86
        unfold BX6_chance_86
        simp only [T_X6_within, T_X6_byLot, i_const, i_lconst, i_iload, i_aload, i_lload, i_istore, i_astore, i_lstore, i_iinc, i_bin, i_div, i_un, i_i2l, i_l2i, i_lbin, i_lcmp, i_if, i_icmp, i_dup, i_dup_x1, i_dup2, i_pop, i_geti, i_getr, i_getd, i_puti, i_putz, i_putd, i_iald, i_bald, i_aald, i_iast, i_bast, i_alen, i_keep, i_ret, i_retz, i_reta, i_retl, i_retv, i_callv, i_callk, i_calls, i_mm, i_copy, i_under, i_undld, i_ldcs, i_sw, q_swc0, q_swc1, q_lg0, q_lg1, q_lent0, q_lent1, lset, lset2, q_lins0, q_lins1, q_ldel0, q_ldel1, q_ldel20, q_ldel21, q_lkeep0, q_lkeep1, q_memb0, q_memb1, cat2, Nat.reduceBEq, decide_true, decide_false, decide_eq_true_eq, cond_true, cond_false, Bool.and_true, Bool.and_false, Bool.true_and, Bool.false_and, f_iadd, f_isub, f_imul, f_ishl, f_ishr, f_iushr, f_iand, f_ior, f_idiv, f_irem, f_ineg, f_i2b, f_i2s, f_ladd, f_lmul, c_eq, c_ne, c_lt, c_ge, c_gt, c_le, cc_eq, cc_ne, cc_lt, cc_ge, cc_gt, cc_le, rfo, aof, csum, Value.category, List.take, List.drop, List.reverse, List.reverseAux, List.map, List.sum_cons, List.sum_nil, List.cons_append, List.nil_append, Option.toList, List.mem_cons, List.not_mem_nil, List.length_cons, List.length_nil, reduceIte, Nat.reduceEqDiff, Nat.reduceAdd, Nat.reduceLeDiff, Nat.reduceLT, a_day, Nat.zero_ne_one, Nat.one_ne_zero, false_and, and_false, true_and, and_true, or_false, false_or, or_true, true_or, not_true_eq_false, not_false_eq_true, Nat.zero_add, Nat.add_zero, Nat.le_refl, Nat.lt_irrefl, Nat.zero_lt_succ, Nat.zero_le, forall_const, List.cons.injEq, Value.int.injEq, Value.ref.injEq, Value.long.injEq, and_assoc, exists_and_left, exists_eq_left']
        try simp only [forall_eq]
        refine ⟨fun y => ⟨fun q => nI_ne0 (by omega) (by omega) q, ?_⟩, fun y => ⟨fun q => nI_ne0 (by omega) (by omega) q, ?_⟩⟩
        · rw [if_neg y] at hfin
          rw [pk_div (by omega) (by omega) (by omega)]
          exact hfin
        · rw [if_pos (Decidable.not_not.mp y)] at hfin
          rw [pk_div (by omega) (by omega) (by omega)]
          exact hfin
      · have hn0 : 0 < n := by
          rcases Nat.eq_zero_or_pos n with q | q
          · subst q; exact absurd rfl z
          · exact q
        refine ⟨z, ?_⟩
        rw [pk_rem (by omega) hn0 (by omega)]
        have hlt := Nat.mod_lt x hn0
        refine hK63 (x % n) _ _ _ hlt ?_
        rw [hI63]
        refine ⟨n, mm, hme, hm1, hm2, hp01, rfl, rfl, hn20, by omega, ?_, hs⟩
        rw [← hgc, Nat.gcd_comm x n, Nat.gcd_rec n x, Nat.gcd_comm]
      
    have L29 : Sj p l e 9 s m args below meth c 8 g (MQ below (cQc g Q) args s 0 0 (gA g)) 29 E29 := by
      rw [hE29]
      refine s_ex (s_loop I29 (fun K29 k29 => WX6_chance_29 C (t_X6_within hg) (by decide) (t_X6_byLot hg) (by decide) k29 L63) ?_)
      intro n lv st M1 K29 hK29 hI; rw [hI29] at hI; obtain ⟨k, mm, hme, hm1, hm2, hp01, rfl, rfl, hk, rfl, hs⟩ := hI
      unfold BX6_chance_29
      generalize hB44 : BX6_chance_44 g Q (T_X6_within g) (T_X6_byLot g) K29 E63 = B44
      generalize hB56 : BX6_chance_56 g Q (T_X6_within g) (T_X6_byLot g) K29 E63 = B56
      simp only [T_X6_within, T_X6_byLot, i_const, i_lconst, i_iload, i_aload, i_lload, i_istore, i_astore, i_lstore, i_iinc, i_bin, i_div, i_un, i_i2l, i_l2i, i_lbin, i_lcmp, i_if, i_icmp, i_dup, i_dup_x1, i_dup2, i_pop, i_geti, i_getr, i_getd, i_puti, i_putz, i_putd, i_iald, i_bald, i_aald, i_iast, i_bast, i_alen, i_keep, i_ret, i_retz, i_reta, i_retl, i_retv, i_callv, i_callk, i_calls, i_mm, i_copy, i_under, i_undld, i_ldcs, i_sw, q_swc0, q_swc1, q_lg0, q_lg1, q_lent0, q_lent1, lset, lset2, q_lins0, q_lins1, q_ldel0, q_ldel1, q_ldel20, q_ldel21, q_lkeep0, q_lkeep1, q_memb0, q_memb1, cat2, Nat.reduceBEq, decide_true, decide_false, decide_eq_true_eq, cond_true, cond_false, Bool.and_true, Bool.and_false, Bool.true_and, Bool.false_and, f_iadd, f_isub, f_imul, f_ishl, f_ishr, f_iushr, f_iand, f_ior, f_idiv, f_irem, f_ineg, f_i2b, f_i2s, f_ladd, f_lmul, c_eq, c_ne, c_lt, c_ge, c_gt, c_le, cc_eq, cc_ne, cc_lt, cc_ge, cc_gt, cc_le, rfo, aof, csum, Value.category, List.take, List.drop, List.reverse, List.reverseAux, List.map, List.sum_cons, List.sum_nil, List.cons_append, List.nil_append, Option.toList, List.mem_cons, List.not_mem_nil, List.length_cons, List.length_nil, reduceIte, Nat.reduceEqDiff, Nat.reduceAdd, Nat.reduceLeDiff, Nat.reduceLT, a_day, Nat.zero_ne_one, Nat.one_ne_zero, false_and, and_false, true_and, and_true, or_false, false_or, or_true, true_or, not_true_eq_false, not_false_eq_true, Nat.zero_add, Nat.add_zero, Nat.le_refl, Nat.lt_irrefl, Nat.zero_lt_succ, Nat.zero_le, forall_const, List.cons.injEq, Value.int.injEq, Value.ref.injEq, Value.long.injEq, and_assoc, exists_and_left, exists_eq_left']
      try simp only [forall_eq]
      obtain ⟨ko, kd', kx⟩ := keepM hs YD88 ho
      have hcl := chN_le (xm M) (dm M) seed k
      rw [nI_leI (by omega) (by omega)]
      refine ⟨fun z => ?_, fun z => ?_⟩
      · have : k = mm := by omega
        subst this
        subst hB56
        unfold BX6_chance_56
        simp only [T_X6_within, T_X6_byLot, i_const, i_lconst, i_iload, i_aload, i_lload, i_istore, i_astore, i_lstore, i_iinc, i_bin, i_div, i_un, i_i2l, i_l2i, i_lbin, i_lcmp, i_if, i_icmp, i_dup, i_dup_x1, i_dup2, i_pop, i_geti, i_getr, i_getd, i_puti, i_putz, i_putd, i_iald, i_bald, i_aald, i_iast, i_bast, i_alen, i_keep, i_ret, i_retz, i_reta, i_retl, i_retv, i_callv, i_callk, i_calls, i_mm, i_copy, i_under, i_undld, i_ldcs, i_sw, q_swc0, q_swc1, q_lg0, q_lg1, q_lent0, q_lent1, lset, lset2, q_lins0, q_lins1, q_ldel0, q_ldel1, q_ldel20, q_ldel21, q_lkeep0, q_lkeep1, q_memb0, q_memb1, cat2, Nat.reduceBEq, decide_true, decide_false, decide_eq_true_eq, cond_true, cond_false, Bool.and_true, Bool.and_false, Bool.true_and, Bool.false_and, f_iadd, f_isub, f_imul, f_ishl, f_ishr, f_iushr, f_iand, f_ior, f_idiv, f_irem, f_ineg, f_i2b, f_i2s, f_ladd, f_lmul, c_eq, c_ne, c_lt, c_ge, c_gt, c_le, cc_eq, cc_ne, cc_lt, cc_ge, cc_gt, cc_le, rfo, aof, csum, Value.category, List.take, List.drop, List.reverse, List.reverseAux, List.map, List.sum_cons, List.sum_nil, List.cons_append, List.nil_append, Option.toList, List.mem_cons, List.not_mem_nil, List.length_cons, List.length_nil, reduceIte, Nat.reduceEqDiff, Nat.reduceAdd, Nat.reduceLeDiff, Nat.reduceLT, a_day, Nat.zero_ne_one, Nat.one_ne_zero, false_and, and_false, true_and, and_true, or_false, false_or, or_true, true_or, not_true_eq_false, not_false_eq_true, Nat.zero_add, Nat.add_zero, Nat.le_refl, Nat.lt_irrefl, Nat.zero_lt_succ, Nat.zero_le, forall_const, List.cons.injEq, Value.int.injEq, Value.ref.injEq, Value.long.injEq, and_assoc, exists_and_left, exists_eq_left']
        try simp only [forall_eq]
        refine iE63 k _ _ _ ?_
        rw [hI63]
        exact ⟨chN (xm M) (dm M) seed k, k, hme, hm1, hm2, hp01, rfl, rfl, by omega, hm2, rfl, hs⟩
      · refine ⟨(m_76 hg).1, (m_76 hg).2.1, ko, fun M2 hs2 => ?_⟩
        rw [kd', kx]
        subst hB44
        unfold BX6_chance_44
        simp only [T_X6_within, T_X6_byLot, i_const, i_lconst, i_iload, i_aload, i_lload, i_istore, i_astore, i_lstore, i_iinc, i_bin, i_div, i_un, i_i2l, i_l2i, i_lbin, i_lcmp, i_if, i_icmp, i_dup, i_dup_x1, i_dup2, i_pop, i_geti, i_getr, i_getd, i_puti, i_putz, i_putd, i_iald, i_bald, i_aald, i_iast, i_bast, i_alen, i_keep, i_ret, i_retz, i_reta, i_retl, i_retv, i_callv, i_callk, i_calls, i_mm, i_copy, i_under, i_undld, i_ldcs, i_sw, q_swc0, q_swc1, q_lg0, q_lg1, q_lent0, q_lent1, lset, lset2, q_lins0, q_lins1, q_ldel0, q_ldel1, q_ldel20, q_ldel21, q_lkeep0, q_lkeep1, q_memb0, q_memb1, cat2, Nat.reduceBEq, decide_true, decide_false, decide_eq_true_eq, cond_true, cond_false, Bool.and_true, Bool.and_false, Bool.true_and, Bool.false_and, f_iadd, f_isub, f_imul, f_ishl, f_ishr, f_iushr, f_iand, f_ior, f_idiv, f_irem, f_ineg, f_i2b, f_i2s, f_ladd, f_lmul, c_eq, c_ne, c_lt, c_ge, c_gt, c_le, cc_eq, cc_ne, cc_lt, cc_ge, cc_gt, cc_le, rfo, aof, csum, Value.category, List.take, List.drop, List.reverse, List.reverseAux, List.map, List.sum_cons, List.sum_nil, List.cons_append, List.nil_append, Option.toList, List.mem_cons, List.not_mem_nil, List.length_cons, List.length_nil, reduceIte, Nat.reduceEqDiff, Nat.reduceAdd, Nat.reduceLeDiff, Nat.reduceLT, a_day, Nat.zero_ne_one, Nat.one_ne_zero, false_and, and_false, true_and, and_true, or_false, false_or, or_true, true_or, not_true_eq_false, not_false_eq_true, Nat.zero_add, Nat.add_zero, Nat.le_refl, Nat.lt_irrefl, Nat.zero_lt_succ, Nat.zero_le, forall_const, List.cons.injEq, Value.int.injEq, Value.ref.injEq, Value.long.injEq, and_assoc, exists_and_left, exists_eq_left']
        try simp only [forall_eq]
        have e1 : lotA (xm M) (dm M) (seed + nI k) 1 = wor (xm M) (drwD (dm M) (seed + nI k)) - lotS (seed + nI k) := rfl
        rw [e1, lot_gt hwf, nI_1, nI_1]
        have fin : ∀ x, x = nI (chN (xm M) (dm M) seed (k + 1)) → K29 [(0, .ref 76), (1, .int seed), (2, .int (nI mm)), (3, .int part), (4, .int x), (5, .int (nI (k + 1)))] [] M2 := by
          intro x hx
          subst hx
          refine hK29 (mm - (k + 1)) _ _ _ (by omega) ?_
          rw [hI29]
          exact ⟨k + 1, mm, hme, hm1, hm2, hp01, rfl, rfl, by omega, rfl, hs.tr hs2⟩
        refine ⟨fun y => fin _ ?_, fun y => fin _ ?_⟩
        · simp only [chN]; rw [if_neg y]; rfl
        · simp only [chN]; rw [if_pos (Decidable.not_not.mp y)]
    refine s_of (fun lv st M0 hs => ?_) (WX6_chance_0 C (t_X6_within hg) (by decide) (t_X6_byLot hg) (by decide) L29 L63)
    obtain ⟨rfl, rfl, rfl⟩ := hs
    unfold BX6_chance_0
    generalize hB7 : BX6_chance_7 g Q (T_X6_within g) (T_X6_byLot g) E29 E63 = B7
    simp only [T_X6_within, T_X6_byLot, i_const, i_lconst, i_iload, i_aload, i_lload, i_istore, i_astore, i_lstore, i_iinc, i_bin, i_div, i_un, i_i2l, i_l2i, i_lbin, i_lcmp, i_if, i_icmp, i_dup, i_dup_x1, i_dup2, i_pop, i_geti, i_getr, i_getd, i_puti, i_putz, i_putd, i_iald, i_bald, i_aald, i_iast, i_bast, i_alen, i_keep, i_ret, i_retz, i_reta, i_retl, i_retv, i_callv, i_callk, i_calls, i_mm, i_copy, i_under, i_undld, i_ldcs, i_sw, q_swc0, q_swc1, q_lg0, q_lg1, q_lent0, q_lent1, lset, lset2, q_lins0, q_lins1, q_ldel0, q_ldel1, q_ldel20, q_ldel21, q_lkeep0, q_lkeep1, q_memb0, q_memb1, cat2, Nat.reduceBEq, decide_true, decide_false, decide_eq_true_eq, cond_true, cond_false, Bool.and_true, Bool.and_false, Bool.true_and, Bool.false_and, f_iadd, f_isub, f_imul, f_ishl, f_ishr, f_iushr, f_iand, f_ior, f_idiv, f_irem, f_ineg, f_i2b, f_i2s, f_ladd, f_lmul, c_eq, c_ne, c_lt, c_ge, c_gt, c_le, cc_eq, cc_ne, cc_lt, cc_ge, cc_gt, cc_le, rfo, aof, csum, Value.category, List.take, List.drop, List.reverse, List.reverseAux, List.map, List.sum_cons, List.sum_nil, List.cons_append, List.nil_append, Option.toList, List.mem_cons, List.not_mem_nil, List.length_cons, List.length_nil, reduceIte, Nat.reduceEqDiff, Nat.reduceAdd, Nat.reduceLeDiff, Nat.reduceLT, a_day, Nat.zero_ne_one, Nat.one_ne_zero, false_and, and_false, true_and, and_true, or_false, false_or, or_true, true_or, not_true_eq_false, not_false_eq_true, Nat.zero_add, Nat.add_zero, Nat.le_refl, Nat.lt_irrefl, Nat.zero_lt_succ, Nat.zero_le, forall_const, List.cons.injEq, Value.int.injEq, Value.ref.injEq, Value.long.injEq, and_assoc, exists_and_left, exists_eq_left']
    try simp only [forall_eq]
    have hb : ¬ ((1 ≤ m0 ∧ m0 ≤ 20) ∧ (0 ≤ part ∧ part ≤ 1)) → Q (some (.long (-4611686018427387904))) M0 := fun c => by
      have := h M0 Sm.rf
      rwa [chA, if_neg c] at this
    subst hB7
    unfold BX6_chance_7
    generalize hB16 : BX6_chance_16 g Q (T_X6_within g) (T_X6_byLot g) E29 E63 = B16
    simp only [T_X6_within, T_X6_byLot, i_const, i_lconst, i_iload, i_aload, i_lload, i_istore, i_astore, i_lstore, i_iinc, i_bin, i_div, i_un, i_i2l, i_l2i, i_lbin, i_lcmp, i_if, i_icmp, i_dup, i_dup_x1, i_dup2, i_pop, i_geti, i_getr, i_getd, i_puti, i_putz, i_putd, i_iald, i_bald, i_aald, i_iast, i_bast, i_alen, i_keep, i_ret, i_retz, i_reta, i_retl, i_retv, i_callv, i_callk, i_calls, i_mm, i_copy, i_under, i_undld, i_ldcs, i_sw, q_swc0, q_swc1, q_lg0, q_lg1, q_lent0, q_lent1, lset, lset2, q_lins0, q_lins1, q_ldel0, q_ldel1, q_ldel20, q_ldel21, q_lkeep0, q_lkeep1, q_memb0, q_memb1, cat2, Nat.reduceBEq, decide_true, decide_false, decide_eq_true_eq, cond_true, cond_false, Bool.and_true, Bool.and_false, Bool.true_and, Bool.false_and, f_iadd, f_isub, f_imul, f_ishl, f_ishr, f_iushr, f_iand, f_ior, f_idiv, f_irem, f_ineg, f_i2b, f_i2s, f_ladd, f_lmul, c_eq, c_ne, c_lt, c_ge, c_gt, c_le, cc_eq, cc_ne, cc_lt, cc_ge, cc_gt, cc_le, rfo, aof, csum, Value.category, List.take, List.drop, List.reverse, List.reverseAux, List.map, List.sum_cons, List.sum_nil, List.cons_append, List.nil_append, Option.toList, List.mem_cons, List.not_mem_nil, List.length_cons, List.length_nil, reduceIte, Nat.reduceEqDiff, Nat.reduceAdd, Nat.reduceLeDiff, Nat.reduceLT, a_day, Nat.zero_ne_one, Nat.one_ne_zero, false_and, and_false, true_and, and_true, or_false, false_or, or_true, true_or, not_true_eq_false, not_false_eq_true, Nat.zero_add, Nat.add_zero, Nat.le_refl, Nat.lt_irrefl, Nat.zero_lt_succ, Nat.zero_le, forall_const, List.cons.injEq, Value.int.injEq, Value.ref.injEq, Value.long.injEq, and_assoc, exists_and_left, exists_eq_left']
    try simp only [forall_eq]
    refine ⟨fun z1 => hb (fun q => b2n z1 q.1), fun z1 => ?_⟩
    subst hB16
    unfold BX6_chance_16
    simp only [T_X6_within, T_X6_byLot, i_const, i_lconst, i_iload, i_aload, i_lload, i_istore, i_astore, i_lstore, i_iinc, i_bin, i_div, i_un, i_i2l, i_l2i, i_lbin, i_lcmp, i_if, i_icmp, i_dup, i_dup_x1, i_dup2, i_pop, i_geti, i_getr, i_getd, i_puti, i_putz, i_putd, i_iald, i_bald, i_aald, i_iast, i_bast, i_alen, i_keep, i_ret, i_retz, i_reta, i_retl, i_retv, i_callv, i_callk, i_calls, i_mm, i_copy, i_under, i_undld, i_ldcs, i_sw, q_swc0, q_swc1, q_lg0, q_lg1, q_lent0, q_lent1, lset, lset2, q_lins0, q_lins1, q_ldel0, q_ldel1, q_ldel20, q_ldel21, q_lkeep0, q_lkeep1, q_memb0, q_memb1, cat2, Nat.reduceBEq, decide_true, decide_false, decide_eq_true_eq, cond_true, cond_false, Bool.and_true, Bool.and_false, Bool.true_and, Bool.false_and, f_iadd, f_isub, f_imul, f_ishl, f_ishr, f_iushr, f_iand, f_ior, f_idiv, f_irem, f_ineg, f_i2b, f_i2s, f_ladd, f_lmul, c_eq, c_ne, c_lt, c_ge, c_gt, c_le, cc_eq, cc_ne, cc_lt, cc_ge, cc_gt, cc_le, rfo, aof, csum, Value.category, List.take, List.drop, List.reverse, List.reverseAux, List.map, List.sum_cons, List.sum_nil, List.cons_append, List.nil_append, Option.toList, List.mem_cons, List.not_mem_nil, List.length_cons, List.length_nil, reduceIte, Nat.reduceEqDiff, Nat.reduceAdd, Nat.reduceLeDiff, Nat.reduceLT, a_day, Nat.zero_ne_one, Nat.one_ne_zero, false_and, and_false, true_and, and_true, or_false, false_or, or_true, true_or, not_true_eq_false, not_false_eq_true, Nat.zero_add, Nat.add_zero, Nat.le_refl, Nat.lt_irrefl, Nat.zero_lt_succ, Nat.zero_le, forall_const, List.cons.injEq, Value.int.injEq, Value.ref.injEq, Value.long.injEq, and_assoc, exists_and_left, exists_eq_left']
    try simp only [forall_eq]
    refine ⟨fun z2 => ?_, fun z2 => hb (fun q => b2n (Decidable.not_not.mp z2) q.2)⟩
    obtain ⟨c1, c2⟩ := b2t z1
    obtain ⟨mm, hm31, hme⟩ := nI_of (x := m0) (by
      rw [i_lt]; rw [i_le] at c1
      have e : (1 : Int32).toInt = 1 := rfl
      have e0 : (0 : Int32).toInt = 0 := rfl
      omega)
    rw [hme] at c1 c2
    have hm1 := (nI_leI (a := 1) (by decide) hm31).mp c1
    have hm2 := (nI_leI (b := 20) hm31 (by decide)).mp c2
    refine iE29 (mm - 0) _ _ _ ?_
    rw [hI29]
    exact ⟨0, mm, hme, hm1, hm2, b2t z2, by rw [hme]; rfl, rfl, by omega, rfl, Sm.rf⟩
