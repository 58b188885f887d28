/-! ===== what is told of a day rests on the rule's text alone ===== -/
def EQ (X X' : XV) (D : DV) : Prop := ∀ p, p < 3 → X' (rix D) p = X (rix D) p
def AG (X X' : XV) (T : Nat) : Prop := ∀ t, t < T → ∀ p, p < 3 → X' (8 + 4 * t) p = X (8 + 4 * t) p
theorem AG.eq {X X' : XV} {T : Nat} {D : DV} (h : AG X X' T) (hw : wfD D T) : EQ X X' D := by
  obtain ⟨t, ht, e⟩ := hw.2.2.2.1
  have h6 := hw.2.2.2.2
  intro p hp
  have : rix D = 8 + 4 * t := by unfold rix; rw [e, nI_clamp (by omega)]
  rw [this]; exact h t ht p hp
theorem rul_e {X X' : XV} {D : DV} (h : EQ X X' D) {p : Nat} (hp : p < 3) (s : Nat) (j : Int32) : rul X' D p s j = rul X D p s j := by unfold rul; rw [h p hp]
theorem pul_e {X X' : XV} {D : DV} (h : EQ X X' D) (s : Nat) : pul X' D s = pul X D s := by funext j; unfold pul; rw [rul_e h (by decide)]
theorem wea_e {X X' : XV} {D : DV} (h : EQ X X' D) (s : Nat) : wea X' D s = wea X D s := by unfold wea; rw [rul_e h (by decide)]
theorem sta_e {X X' : XV} {D : DV} (h : EQ X X' D) (s : Nat) : sta X' D s = sta X D s := by unfold sta; rw [rul_e h (by decide)]
theorem strn_e {X X' : XV} {D : DV} (h : EQ X X' D) : ∀ n, strn X' D n = strn X D n
  | 0 => rfl
  | n + 1 => by simp only [strn]; rw [strn_e h n, pul_e h]
theorem gld_e {X X' : XV} {D : DV} (h : EQ X X' D) : gld X' D = gld X D := by funext j; unfold gld; rw [strn_e h]
theorem wor_e {X X' : XV} {D : DV} (h : EQ X X' D) : wor X' D = wor X D := by unfold wor; rw [gld_e h]
theorem tgt_e {X X' : XV} {D : DV} (h : EQ X X' D) : ∀ n, tgt X' D n = tgt X D n
  | 0 => rfl
  | n + 1 => by simp only [tgt]; rw [tgt_e h n, strn_e h]
theorem hrs_e {X X' : XV} {D : DV} (h : EQ X X' D) (w : Int32) : hrs X' D w = hrs X D w := by unfold hrs; rw [wor_e h, tgt_e h]
theorem wr1_e {X X' : XV} {D : DV} (h : EQ X X' D) (n : Nat) : wr1 X' D n = wr1 X D n := by funext f i; unfold wr1; rw [wea_e h]
theorem rix_c {D D' : DV} (h : D' 7 2 = D 7 2) : rix D' = rix D := by unfold rix; rw [h]
theorem EQ.c {X X' : XV} {D D' : DV} (h : EQ X X' D) (hd : D' 7 2 = D 7 2) : EQ X X' D' := by unfold EQ; rw [rix_c hd]; exact h
theorem brn_e {X X' : XV} {D : DV} (h : EQ X X' D) : ∀ n, brn X' D n = brn X D n
  | 0 => rfl
  | n + 1 => by
    simp only [brn]
    rw [brn_e h n]
    unfold brs
    rw [sta_e (h.c (brn_ne (by decide) n))]
theorem bbn_e {X X' : XV} {D : DV} (h : EQ X X' D) : ∀ n, bbn X' D n = bbn X D n
  | 0 => rfl
  | n + 1 => by
    simp only [bbn]
    rw [brn_e h n, bbn_e h n, sta_e (h.c (brn_ne (by decide) n))]
theorem wr1_72 {X : XV} {D : DV} {n : Nat} : wr1 X D n 7 2 = D 7 2 := wr1_ne (by decide)
theorem pasD_72 (X : XV) (D : DV) : pasD X D 7 2 = D 7 2 := by unfold pasD; rw [dayD_eq, upF_nk (by decide), brn_ne (by decide), wr1_ne (by decide)]
theorem pasD_e {X X' : XV} {D : DV} (h : EQ X X' D) : pasD X' D = pasD X D := by unfold pasD; rw [wr1_e h, brn_e (h.c wr1_72)]
theorem pasB_e {X X' : XV} {D : DV} (h : EQ X X' D) : pasB X' D = pasB X D := by unfold pasB; rw [wr1_e h, bbn_e (h.c wr1_72)]
theorem pasN_72 (X : XV) (D : DV) : ∀ n, pasN X D n 7 2 = D 7 2
  | 0 => rfl
  | n + 1 => by show pasD X (pasN X D n) 7 2 = _; rw [pasD_72, pasN_72 X D n]
theorem pasN_e {X X' : XV} {D : DV} (h : EQ X X' D) : ∀ n, pasN X' D n = pasN X D n
  | 0 => rfl
  | n + 1 => by show pasD X' (pasN X' D n) = pasD X (pasN X D n); rw [pasN_e h n, pasD_e (h.c (pasN_72 X D n))]
theorem alw_e {X X' : XV} {D : DV} (h : EQ X X' D) : ∀ n, alw X' D n = alw X D n
  | 0 => rfl
  | n + 1 => by simp only [alw]; rw [alw_e h n, pasN_e h, wor_e (h.c (pasN_72 X D (n + 1)))]
theorem wnb_e {X X' : XV} {D : DV} (h : EQ X X' D) (s : Nat) : ∀ n, wnb X' D s n = wnb X D s n
  | 0 => rfl
  | n + 1 => by simp only [wnb]; rw [wnb_e h s n, pasN_e h, pasB_e (h.c (pasN_72 X D n))]
theorem runA_e {X X' : XV} {D : DV} (h : EQ X X' D) (n w : Int32) : runA X' D n w = runA X D n w := by unfold runA; rw [pasN_e h, alw_e h, wnb_e h, wor_e (h.c (pasN_72 X D _))]
theorem addD_72 {D : DV} {k n f l : Int32} : addD D k n f l 7 2 = D 7 2 := by simp [addD]
theorem cutA_e {X X' : XV} {D : DV} (h : EQ X X' D) (k n w : Int32) : cutA X' D k n w = cutA X D k n w := by
  have : cutW X' D k n = cutW X D k n := by funext f l; unfold cutW; exact wor_e (h.c addD_72)
  unfold cutA; rw [this, wor_e h]
theorem unpN_e {X X' : XV} {D : DV} (h : EQ X X' D) : ∀ n, unpN X' D n = unpN X D n
  | 0 => by simp only [unpN]; rw [wor_e h]
  | n + 1 => by simp only [unpN]; rw [unpN_e h n, wor_e (h.c (upF_ne (by decide)))]
theorem unpA_e {X X' : XV} {D : DV} (h : EQ X X' D) (w : Int32) : unpA X' D w = unpA X D w := by unfold unpA; rw [unpN_e h]
theorem thN_e {X X' : XV} {D : DV} (h : EQ X X' D) (s n : Nat) : ∀ k, thN X' D s n k = thN X D s n k
  | 0 => rfl
  | k + 1 => by simp only [thN]; rw [thN_e h s n k, alw_e (h.c (upF_ne (by decide)))]
theorem thrA_e {X X' : XV} {D : DV} (h : EQ X X' D) (s n w : Int32) : thrA X' D s n w = thrA X D s n w := by unfold thrA; rw [thN_e h]
theorem shfD_72 {D : DV} {s f : Nat} : shfD D s f 7 2 = D 7 2 := by unfold shfD; rw [upF_ne (by decide), upF_ne (by decide)]
theorem mvN_e {X X' : XV} {D : DV} (h : EQ X X' D) (s : Nat) : ∀ k, mvN X' D s k = mvN X D s k
  | 0 => rfl
  | k + 1 => by simp only [mvN]; rw [mvN_e h s k, wor_e (h.c shfD_72)]
theorem mvA_e {X X' : XV} {D : DV} (h : EQ X X' D) (s w : Int32) : mvA X' D s w = mvA X D s w := by unfold mvA; rw [mvN_e h]
theorem wrg_e {X X' : XV} {D : DV} (h : EQ X X' D) (c : Nat → Int32) : ∀ m i, wrg X' D c m i = wrg X D c m i
  | 0, _ => rfl
  | m + 1, i => by simp only [wrg]; rw [wrg_e h c m, pasN_e h, wor_e (h.c (pasN_72 X D i))]
theorem soB_e {X X' : XV} {F : Nat → DV} {v : Nat} (h : EQ X X' (F v)) (c : Nat → Int32) (n : Nat) : soB X' F c n v = soB X F c n v := by unfold soB; rw [wrg_e h]
theorem bsum_c {p q : Nat → Bool} : ∀ {n : Nat}, (∀ v, v < n → p v = q v) → bsum p n = bsum q n
  | 0, _ => rfl
  | n + 1, h => by simp only [bsum]; rw [h n (by omega), bsum_c (fun v hv => h v (by omega))]
theorem cnt_c {p q : Nat → Bool} (h : ∀ v, p v = q v) : ∀ m v, cnt p m v = cnt q m v
  | 0, _ => rfl
  | m + 1, v => by simp only [cnt]; rw [h v, cnt_c h m]
theorem lea_c {p q : Nat → Bool} (h : ∀ v, p v = q v) : ∀ m v, lea p m v = lea q m v
  | 0, _ => rfl
  | m + 1, v => by simp only [lea]; rw [h v, lea_c h m]
theorem telF_72 {D : DV} {a s v : Nat} (h : ¬ a = 0) : telF D a s v 7 2 = D 7 2 := by
  unfold telF
  rw [if_neg h]
  split
  · exact upF_ne (by decide)
  · split
    · exact upF_ne (by decide)
    · split
      · exact shfD_72
      · exact upF_ne (by decide)
theorem telN_e {X X' : XV} {D : DV} {T : Nat} (hag : AG X X' T) (hw : wfD D T) (c : Nat → Int32) (n k : Nat) : telN X' D T c n k = telN X D T c n k := by
  have h := hag.eq hw
  have hT := hw.2.2.2.2
  have e1 : ∀ a s, ¬ a = 0 → ∀ v, soB X' (telF D a s) c n v = soB X (telF D a s) c n v := fun a s ha v => soB_e (h.c (telF_72 ha)) c n
  have e0 : ∀ v, v < T → soB X' (telF D 0 0) c n v = soB X (telF D 0 0) c n v := fun v hv => soB_e (fun p hp => by
    have : rix (telF D 0 0 v) = 8 + 4 * v := by
      unfold rix telF
      rw [if_pos rfl, upF_s, nI_clamp (by omega)]
    rw [this]; exact hag v hv p hp) c n
  unfold telN
  rw [wrg_e h, bsum_c e0, bsum_c (fun v _ => e1 1 (k % 10) (by decide) v), bsum_c (fun v _ => e1 2 (k % 10) (by decide) v), cnt_c (e1 3 (k % 10) (by decide)), lea_c (e1 4 (k % 10) (by decide)), bsum_c (fun v _ => e1 5 (k % 10) (by decide) v)]
theorem telA_e {X X' : XV} {D : DV} {T : Nat} (hag : AG X X' T) (hw : wfD D T) (srt siz : Nat → Int32) (cel : Nat → Nat → Int32) (sh w : Int32) : telA X' D T srt siz cel sh w = telA X D T srt siz cel sh w := by unfold telA; rw [telN_e hag hw]
theorem drwD_72 {D : DV} {seed : Int32} : drwD D seed 7 2 = D 7 2 := by simp [drwD]
theorem chN_e {X X' : XV} {D : DV} (h : EQ X X' D) (seed : Int32) : ∀ k, chN X' D seed k = chN X D seed k
  | 0 => rfl
  | k + 1 => by simp only [chN]; rw [chN_e h seed k, wor_e (h.c drwD_72)]
theorem chA_e {X X' : XV} {D : DV} (h : EQ X X' D) (seed m part : Int32) : chA X' D seed m part = chA X D seed m part := by unfold chA; rw [chN_e h]
theorem toldA_e {X X' : XV} {D : DV} (h : EQ X X' D) (o w : Int32) : toldA X' D o w = toldA X D o w := by unfold toldA; rw [gld_e h, strn_e h, wea_e h, sta_e h]
/-! ===== the class: what its questions may change; its checks ===== -/
def YC (a b : Nat) : Prop := XD 52 a b ∨ XP 40 a b
theorem Sm_YC {M M' : MM} (h : Sm (XD 52) M M') : Sm YC M M' := h.mono fun _ _ q => Or.inl q
theorem Sm_YC40 {M M' : MM} (h : Sm (XP 40) M M') : Sm YC M M' := h.mono fun _ _ q => Or.inr q
theorem YC_no {a b : Nat} (h : ¬ (40 ≤ a ∧ a < 64) ∧ ¬ (8 ≤ a ∧ a < 32 ∧ a % 4 = 3)) : ¬ YC a b := by unfold YC XD XP isPile; omega
theorem YC_40 {b : Nat} (h : ¬ b = 7 ∧ ¬ b = 8) : ¬ YC 40 b := by unfold YC XD XP isPile; omega
theorem YC_41 {a b : Nat} (h : a = 41 ∨ (45 ≤ a ∧ a < 52)) : ¬ YC a b := by unfold YC XD XP isPile; omega
theorem xc_C {M M' : MM} {t : Nat} (h : Sm YC M M') (ht : t < 6) : xc M' (8 + 4 * t) = xc M (8 + 4 * t) ∧ (txOK M (8 + 4 * t) → txOK M' (8 + 4 * t)) :=
  xc_sm h (fun j => YC_no (by omega)) (fun j => YC_no (by omega))
theorem AG_C {M M' : MM} {T : Nat} (h : Sm YC M M') (hT : T ≤ 6) : AG (xc M) (xc M') T := fun t ht p _ => by rw [(xc_C h (by omega)).1]
theorem dv_C {M M' : MM} (h : Sm YC M M') (hn : dn (dv M 40) ≤ 7) : dv M' 40 = dv M 40 := dv_sm h (fun j => YC_41 (by omega)) (fun j hj => YC_40 (by omega)) (fun s j hs => YC_41 (by omega)) hn
/-- a class whose thought day, or real one, is good -/
theorem okC_to {M M' : MM} {q T : Nat} {D : DV} (hq : isD q) (h : Sm YC M M') (hd : dv M' q = D) (hw : wfD D T) (htx : ∀ t, t < T → txOK M (8 + 4 * t)) : okD M' q :=
  ⟨hq, T, by rw [hd]; exact hw, fun t ht => (xc_C h (by have := hw.2.2.2.2; omega)).2 (htx t ht)⟩
theorem c_0 {g : WG} (hg : Full g) : okq g 5 0 := okR hg (by decide) (by decide) rfl
theorem c_40 {g : WG} (hg : Full g) : okq g 0 40 := okR hg (by decide) (by decide) rfl
theorem c_52 {g : WG} (hg : Full g) : okq g 0 52 := okR hg (by decide) (by decide) rfl
theorem c_64 {g : WG} (hg : Full g) : okq g 0 64 := okR hg (by decide) (by decide) rfl
theorem le5 (x : Int32) : x < 6 ↔ x ≤ 5 := by
  rw [i_le, i_lt]
  have a : (5 : Int32).toInt = 5 := rfl
  have b : (6 : Int32).toInt = 6 := rfl
  rw [a, b]; omega
def T_X5_isNumber (g : WG) (as : List Value) (M : MM) (Q : Option Value → MM → Prop) : Prop := ∃ k, as = [.int k] ∧ Q (some (.int (b2i (0 ≤ k ∧ k ≤ 9)))) M
set_option maxRecDepth 100000 in
set_option maxHeartbeats 1000000 in
theorem t_X5_isNumber {l : Launch} {g : WG} (hg : Full g) : Ct l g yX5_isNumber cX5_isNumber 1 ((Option.some FieldType.boolean)) 1 (T_X5_isNumber g) := by
  refine Ct.of (by decide) (fun as M Q h => ?_) (fun p e s m args below meth c as M Q h C => ?_)
  · obtain ⟨k, rfl, h⟩ := h; exact ⟨by simp, by simp [Value.category]⟩
  · obtain ⟨k, rfl, h⟩ := h
    refine s_of (fun lv st M0 hs => ?_) (WX5_isNumber_0 C)
    obtain ⟨rfl, rfl, rfl⟩ := hs
    unfold BX5_isNumber_0
    simp only [i_const, i_lconst, i_iload, i_aload, i_lload, i_istore, i_astore, i_lstore, i_iinc, i_bin, i_div, i_un, i_i2l, i_l2i, i_lbin, i_lcmp, i_if, i_icmp, i_dup, i_dup_x1, i_dup2, i_pop, i_geti, i_getr, i_getd, i_puti, i_putz, i_putd, i_iald, i_bald, i_aald, i_iast, i_bast, i_alen, i_keep, i_ret, i_retz, i_reta, i_retl, i_retv, i_callv, i_callk, i_calls, i_mm, i_copy, i_under, i_undld, i_ldcs, i_sw, q_swc0, q_swc1, q_lg0, q_lg1, q_lent0, q_lent1, lset, lset2, q_lins0, q_lins1, q_ldel0, q_ldel1, q_ldel20, q_ldel21, q_lkeep0, q_lkeep1, q_memb0, q_memb1, cat2, Nat.reduceBEq, decide_true, decide_false, decide_eq_true_eq, cond_true, cond_false, Bool.and_true, Bool.and_false, Bool.true_and, Bool.false_and, f_iadd, f_isub, f_imul, f_ishl, f_ishr, f_iushr, f_iand, f_ior, f_idiv, f_irem, f_ineg, f_i2b, f_i2s, f_ladd, f_lmul, c_eq, c_ne, c_lt, c_ge, c_gt, c_le, cc_eq, cc_ne, cc_lt, cc_ge, cc_gt, cc_le, rfo, aof, csum, Value.category, List.take, List.drop, List.reverse, List.reverseAux, List.map, List.sum_cons, List.sum_nil, List.cons_append, List.nil_append, Option.toList, List.mem_cons, List.not_mem_nil, List.length_cons, List.length_nil, reduceIte, Nat.reduceEqDiff, Nat.reduceAdd, Nat.reduceLeDiff, Nat.reduceLT, a_day, Nat.zero_ne_one, Nat.one_ne_zero, false_and, and_false, true_and, and_true, or_false, false_or, or_true, true_or, not_true_eq_false, not_false_eq_true, Nat.zero_add, Nat.add_zero, Nat.le_refl, Nat.lt_irrefl, Nat.zero_lt_succ, Nat.zero_le, forall_const, List.cons.injEq, Value.int.injEq, Value.ref.injEq, Value.long.injEq, and_assoc, exists_and_left, exists_eq_left']
    try simp only [forall_eq]
    have e : (10 : Int32) ≤ k ↔ ¬ k ≤ 9 := by
      rw [i_le, i_le]
      have a : (10 : Int32).toInt = 10 := rfl
      have b : (9 : Int32).toInt = 9 := rfl
      rw [a, b]; omega
    rw [e]
    refine ⟨fun h1 => ?_, fun h1 => ⟨fun h2 => ?_, fun h2 => ?_⟩⟩
    · rwa [b2i_f (fun z => i_not_le.mpr h1 z.1)] at h
    · rwa [b2i_f (fun z => h2 z.2)] at h
    · rwa [b2i_t ⟨i_not_lt.mp h1, Decidable.not_not.mp h2⟩] at h
def T_X5_isDays (g : WG) (as : List Value) (M : MM) (Q : Option Value → MM → Prop) : Prop := ∃ k, as = [.int k] ∧ Q (some (.int (b2i (0 ≤ k ∧ k ≤ 40)))) M
set_option maxRecDepth 100000 in
set_option maxHeartbeats 1000000 in
theorem t_X5_isDays {l : Launch} {g : WG} (hg : Full g) : Ct l g yX5_isDays cX5_isDays 1 ((Option.some FieldType.boolean)) 1 (T_X5_isDays g) := by
  refine Ct.of (by decide) (fun as M Q h => ?_) (fun p e s m args below meth c as M Q h C => ?_)
  · obtain ⟨k, rfl, h⟩ := h; exact ⟨by simp, by simp [Value.category]⟩
  · obtain ⟨k, rfl, h⟩ := h
    refine s_of (fun lv st M0 hs => ?_) (WX5_isDays_0 C)
    obtain ⟨rfl, rfl, rfl⟩ := hs
    unfold BX5_isDays_0
    simp only [i_const, i_lconst, i_iload, i_aload, i_lload, i_istore, i_astore, i_lstore, i_iinc, i_bin, i_div, i_un, i_i2l, i_l2i, i_lbin, i_lcmp, i_if, i_icmp, i_dup, i_dup_x1, i_dup2, i_pop, i_geti, i_getr, i_getd, i_puti, i_putz, i_putd, i_iald, i_bald, i_aald, i_iast, i_bast, i_alen, i_keep, i_ret, i_retz, i_reta, i_retl, i_retv, i_callv, i_callk, i_calls, i_mm, i_copy, i_under, i_undld, i_ldcs, i_sw, q_swc0, q_swc1, q_lg0, q_lg1, q_lent0, q_lent1, lset, lset2, q_lins0, q_lins1, q_ldel0, q_ldel1, q_ldel20, q_ldel21, q_lkeep0, q_lkeep1, q_memb0, q_memb1, cat2, Nat.reduceBEq, decide_true, decide_false, decide_eq_true_eq, cond_true, cond_false, Bool.and_true, Bool.and_false, Bool.true_and, Bool.false_and, f_iadd, f_isub, f_imul, f_ishl, f_ishr, f_iushr, f_iand, f_ior, f_idiv, f_irem, f_ineg, f_i2b, f_i2s, f_ladd, f_lmul, c_eq, c_ne, c_lt, c_ge, c_gt, c_le, cc_eq, cc_ne, cc_lt, cc_ge, cc_gt, cc_le, rfo, aof, csum, Value.category, List.take, List.drop, List.reverse, List.reverseAux, List.map, List.sum_cons, List.sum_nil, List.cons_append, List.nil_append, Option.toList, List.mem_cons, List.not_mem_nil, List.length_cons, List.length_nil, reduceIte, Nat.reduceEqDiff, Nat.reduceAdd, Nat.reduceLeDiff, Nat.reduceLT, a_day, Nat.zero_ne_one, Nat.one_ne_zero, false_and, and_false, true_and, and_true, or_false, false_or, or_true, true_or, not_true_eq_false, not_false_eq_true, Nat.zero_add, Nat.add_zero, Nat.le_refl, Nat.lt_irrefl, Nat.zero_lt_succ, Nat.zero_le, forall_const, List.cons.injEq, Value.int.injEq, Value.ref.injEq, Value.long.injEq, and_assoc, exists_and_left, exists_eq_left']
    try simp only [forall_eq]
    refine ⟨fun h1 => ?_, fun h1 => ⟨fun h2 => ?_, fun h2 => ?_⟩⟩
    · rwa [b2i_f (fun z => i_not_le.mpr h1 z.1)] at h
    · rwa [b2i_f (fun z => i_not_lt.mpr z.2 h2)] at h
    · rwa [b2i_t ⟨i_not_lt.mp h1, i_not_lt.mp h2⟩] at h
def T_X5_isSort (g : WG) (as : List Value) (M : MM) (Q : Option Value → MM → Prop) : Prop := ∃ k, as = [.int k] ∧ Q (some (.int (b2i (0 ≤ k ∧ k ≤ 2)))) M
set_option maxRecDepth 100000 in
set_option maxHeartbeats 1000000 in
theorem t_X5_isSort {l : Launch} {g : WG} (hg : Full g) : Ct l g yX5_isSort cX5_isSort 1 ((Option.some FieldType.boolean)) 1 (T_X5_isSort g) := by
  refine Ct.of (by decide) (fun as M Q h => ?_) (fun p e s m args below meth c as M Q h C => ?_)
  · obtain ⟨k, rfl, h⟩ := h; exact ⟨by simp, by simp [Value.category]⟩
  · obtain ⟨k, rfl, h⟩ := h
    refine s_of (fun lv st M0 hs => ?_) (WX5_isSort_0 C)
    obtain ⟨rfl, rfl, rfl⟩ := hs
    unfold BX5_isSort_0
    simp only [i_const, i_lconst, i_iload, i_aload, i_lload, i_istore, i_astore, i_lstore, i_iinc, i_bin, i_div, i_un, i_i2l, i_l2i, i_lbin, i_lcmp, i_if, i_icmp, i_dup, i_dup_x1, i_dup2, i_pop, i_geti, i_getr, i_getd, i_puti, i_putz, i_putd, i_iald, i_bald, i_aald, i_iast, i_bast, i_alen, i_keep, i_ret, i_retz, i_reta, i_retl, i_retv, i_callv, i_callk, i_calls, i_mm, i_copy, i_under, i_undld, i_ldcs, i_sw, q_swc0, q_swc1, q_lg0, q_lg1, q_lent0, q_lent1, lset, lset2, q_lins0, q_lins1, q_ldel0, q_ldel1, q_ldel20, q_ldel21, q_lkeep0, q_lkeep1, q_memb0, q_memb1, cat2, Nat.reduceBEq, decide_true, decide_false, decide_eq_true_eq, cond_true, cond_false, Bool.and_true, Bool.and_false, Bool.true_and, Bool.false_and, f_iadd, f_isub, f_imul, f_ishl, f_ishr, f_iushr, f_iand, f_ior, f_idiv, f_irem, f_ineg, f_i2b, f_i2s, f_ladd, f_lmul, c_eq, c_ne, c_lt, c_ge, c_gt, c_le, cc_eq, cc_ne, cc_lt, cc_ge, cc_gt, cc_le, rfo, aof, csum, Value.category, List.take, List.drop, List.reverse, List.reverseAux, List.map, List.sum_cons, List.sum_nil, List.cons_append, List.nil_append, Option.toList, List.mem_cons, List.not_mem_nil, List.length_cons, List.length_nil, reduceIte, Nat.reduceEqDiff, Nat.reduceAdd, Nat.reduceLeDiff, Nat.reduceLT, a_day, Nat.zero_ne_one, Nat.one_ne_zero, false_and, and_false, true_and, and_true, or_false, false_or, or_true, true_or, not_true_eq_false, not_false_eq_true, Nat.zero_add, Nat.add_zero, Nat.le_refl, Nat.lt_irrefl, Nat.zero_lt_succ, Nat.zero_le, forall_const, List.cons.injEq, Value.int.injEq, Value.ref.injEq, Value.long.injEq, and_assoc, exists_and_left, exists_eq_left']
    try simp only [forall_eq]
    refine ⟨fun h1 => ?_, fun h1 => ⟨fun h2 => ?_, fun h2 => ?_⟩⟩
    · rwa [b2i_f (fun z => i_not_le.mpr h1 z.1)] at h
    · rwa [b2i_f (fun z => i_not_lt.mpr z.2 h2)] at h
    · rwa [b2i_t ⟨i_not_lt.mp h1, i_not_lt.mp h2⟩] at h
def T_X5_isSheet (g : WG) (as : List Value) (M : MM) (Q : Option Value → MM → Prop) : Prop := ∃ k, as = [.int k] ∧ Q (some (.int (b2i (0 ≤ k ∧ k ≤ 3)))) M
set_option maxRecDepth 100000 in
set_option maxHeartbeats 1000000 in
theorem t_X5_isSheet {l : Launch} {g : WG} (hg : Full g) : Ct l g yX5_isSheet cX5_isSheet 1 ((Option.some FieldType.boolean)) 1 (T_X5_isSheet g) := by
  refine Ct.of (by decide) (fun as M Q h => ?_) (fun p e s m args below meth c as M Q h C => ?_)
  · obtain ⟨k, rfl, h⟩ := h; exact ⟨by simp, by simp [Value.category]⟩
  · obtain ⟨k, rfl, h⟩ := h
    refine s_of (fun lv st M0 hs => ?_) (WX5_isSheet_0 C)
    obtain ⟨rfl, rfl, rfl⟩ := hs
    unfold BX5_isSheet_0
    simp only [i_const, i_lconst, i_iload, i_aload, i_lload, i_istore, i_astore, i_lstore, i_iinc, i_bin, i_div, i_un, i_i2l, i_l2i, i_lbin, i_lcmp, i_if, i_icmp, i_dup, i_dup_x1, i_dup2, i_pop, i_geti, i_getr, i_getd, i_puti, i_putz, i_putd, i_iald, i_bald, i_aald, i_iast, i_bast, i_alen, i_keep, i_ret, i_retz, i_reta, i_retl, i_retv, i_callv, i_callk, i_calls, i_mm, i_copy, i_under, i_undld, i_ldcs, i_sw, q_swc0, q_swc1, q_lg0, q_lg1, q_lent0, q_lent1, lset, lset2, q_lins0, q_lins1, q_ldel0, q_ldel1, q_ldel20, q_ldel21, q_lkeep0, q_lkeep1, q_memb0, q_memb1, cat2, Nat.reduceBEq, decide_true, decide_false, decide_eq_true_eq, cond_true, cond_false, Bool.and_true, Bool.and_false, Bool.true_and, Bool.false_and, f_iadd, f_isub, f_imul, f_ishl, f_ishr, f_iushr, f_iand, f_ior, f_idiv, f_irem, f_ineg, f_i2b, f_i2s, f_ladd, f_lmul, c_eq, c_ne, c_lt, c_ge, c_gt, c_le, cc_eq, cc_ne, cc_lt, cc_ge, cc_gt, cc_le, rfo, aof, csum, Value.category, List.take, List.drop, List.reverse, List.reverseAux, List.map, List.sum_cons, List.sum_nil, List.cons_append, List.nil_append, Option.toList, List.mem_cons, List.not_mem_nil, List.length_cons, List.length_nil, reduceIte, Nat.reduceEqDiff, Nat.reduceAdd, Nat.reduceLeDiff, Nat.reduceLT, a_day, Nat.zero_ne_one, Nat.one_ne_zero, false_and, and_false, true_and, and_true, or_false, false_or, or_true, true_or, not_true_eq_false, not_false_eq_true, Nat.zero_add, Nat.add_zero, Nat.le_refl, Nat.lt_irrefl, Nat.zero_lt_succ, Nat.zero_le, forall_const, List.cons.injEq, Value.int.injEq, Value.ref.injEq, Value.long.injEq, and_assoc, exists_and_left, exists_eq_left']
    try simp only [forall_eq]
    have e : (4 : Int32) ≤ k ↔ ¬ k ≤ 3 := by
      rw [i_le, i_le]
      have a : (4 : Int32).toInt = 4 := rfl
      have b : (3 : Int32).toInt = 3 := rfl
      rw [a, b]; omega
    rw [e]
    refine ⟨fun h1 => ?_, fun h1 => ⟨fun h2 => ?_, fun h2 => ?_⟩⟩
    · rwa [b2i_f (fun z => i_not_le.mpr h1 z.1)] at h
    · rwa [b2i_f (fun z => h2 z.2)] at h
    · rwa [b2i_t ⟨i_not_lt.mp h1, Decidable.not_not.mp h2⟩] at h
theorem ask_01 (k : Int32) : (0 ≤ k ∧ k ≤ 1) ↔ (k = 0 ∨ k = 1) := by
  constructor
  · intro h
    obtain ⟨j, hj, rfl⟩ := nI_of (i_not_lt.mpr h.1)
    have := (nI_leI (b := 1) hj (by decide)).mp h.2
    have : j = 0 ∨ j = 1 := by omega
    rcases this with rfl | rfl
    · exact Or.inl rfl
    · exact Or.inr rfl
  · intro h
    rcases h with rfl | rfl <;> decide
def T_X5_isAsked (g : WG) (as : List Value) (M : MM) (Q : Option Value → MM → Prop) : Prop := ∃ k, as = [.int k] ∧ Q (some (.int (b2i (0 ≤ k ∧ k ≤ 1)))) M
set_option maxRecDepth 100000 in
set_option maxHeartbeats 1000000 in
theorem t_X5_isAsked {l : Launch} {g : WG} (hg : Full g) : Ct l g yX5_isAsked cX5_isAsked 1 ((Option.some FieldType.boolean)) 1 (T_X5_isAsked g) := by
  refine Ct.of (by decide) (fun as M Q h => ?_) (fun p e s m args below meth c as M Q h C => ?_)
  · obtain ⟨k, rfl, h⟩ := h; exact ⟨by simp, by simp [Value.category]⟩
  · obtain ⟨k, rfl, h⟩ := h
    refine s_of (fun lv st M0 hs => ?_) (WX5_isAsked_0 C)
    obtain ⟨rfl, rfl, rfl⟩ := hs
    unfold BX5_isAsked_0
    simp only [i_const, i_lconst, i_iload, i_aload, i_lload, i_istore, i_astore, i_lstore, i_iinc, i_bin, i_div, i_un, i_i2l, i_l2i, i_lbin, i_lcmp, i_if, i_icmp, i_dup, i_dup_x1, i_dup2, i_pop, i_geti, i_getr, i_getd, i_puti, i_putz, i_putd, i_iald, i_bald, i_aald, i_iast, i_bast, i_alen, i_keep, i_ret, i_retz, i_reta, i_retl, i_retv, i_callv, i_callk, i_calls, i_mm, i_copy, i_under, i_undld, i_ldcs, i_sw, q_swc0, q_swc1, q_lg0, q_lg1, q_lent0, q_lent1, lset, lset2, q_lins0, q_lins1, q_ldel0, q_ldel1, q_ldel20, q_ldel21, q_lkeep0, q_lkeep1, q_memb0, q_memb1, cat2, Nat.reduceBEq, decide_true, decide_false, decide_eq_true_eq, cond_true, cond_false, Bool.and_true, Bool.and_false, Bool.true_and, Bool.false_and, f_iadd, f_isub, f_imul, f_ishl, f_ishr, f_iushr, f_iand, f_ior, f_idiv, f_irem, f_ineg, f_i2b, f_i2s, f_ladd, f_lmul, c_eq, c_ne, c_lt, c_ge, c_gt, c_le, cc_eq, cc_ne, cc_lt, cc_ge, cc_gt, cc_le, rfo, aof, csum, Value.category, List.take, List.drop, List.reverse, List.reverseAux, List.map, List.sum_cons, List.sum_nil, List.cons_append, List.nil_append, Option.toList, List.mem_cons, List.not_mem_nil, List.length_cons, List.length_nil, reduceIte, Nat.reduceEqDiff, Nat.reduceAdd, Nat.reduceLeDiff, Nat.reduceLT, a_day, Nat.zero_ne_one, Nat.one_ne_zero, false_and, and_false, true_and, and_true, or_false, false_or, or_true, true_or, not_true_eq_false, not_false_eq_true, Nat.zero_add, Nat.add_zero, Nat.le_refl, Nat.lt_irrefl, Nat.zero_lt_succ, Nat.zero_le, forall_const, List.cons.injEq, Value.int.injEq, Value.ref.injEq, Value.long.injEq, and_assoc, exists_and_left, exists_eq_left']
    try simp only [forall_eq]
    refine ⟨fun h1 => ?_, fun h1 => ⟨fun h2 => ?_, fun h2 => ?_⟩⟩
    · rwa [b2i_t ((ask_01 k).mpr (Or.inl h1))] at h
    · rwa [b2i_f (fun z => ((ask_01 k).mp z).elim h1 h2)] at h
    · rwa [b2i_t ((ask_01 k).mpr (Or.inr (Decidable.not_not.mp h2)))] at h
def T_X5_isSeam (g : WG) (as : List Value) (M : MM) (Q : Option Value → MM → Prop) : Prop := ∃ x n, as = [.ref 0, .int x] ∧ n < 100 ∧ M 40 6 = nI n ∧ Q (some (.int (b2i (0 ≤ x ∧ x < nI n)))) M
set_option maxRecDepth 100000 in
set_option maxHeartbeats 1000000 in
theorem t_X5_isSeam {l : Launch} {g : WG} (hg : Full g) : Ct l g yX5_isSeam cX5_isSeam 2 ((Option.some FieldType.boolean)) 1 (T_X5_isSeam g) := by
  refine Ct.of (by decide) (fun as M Q h => ?_) (fun p e s m args below meth c as M Q h C => ?_)
  · obtain ⟨x, n, rfl, hn, h6, h⟩ := h; exact ⟨by simp, by simp [Value.category]⟩
  · obtain ⟨x, n, rfl, hn, h6, h⟩ := h
    refine s_of (fun lv st M0 hs => ?_) (WX5_isSeam_0 C)
    obtain ⟨rfl, rfl, rfl⟩ := hs
    unfold BX5_isSeam_0
    simp only [i_const, i_lconst, i_iload, i_aload, i_lload, i_istore, i_astore, i_lstore, i_iinc, i_bin, i_div, i_un, i_i2l, i_l2i, i_lbin, i_lcmp, i_if, i_icmp, i_dup, i_dup_x1, i_dup2, i_pop, i_geti, i_getr, i_getd, i_puti, i_putz, i_putd, i_iald, i_bald, i_aald, i_iast, i_bast, i_alen, i_keep, i_ret, i_retz, i_reta, i_retl, i_retv, i_callv, i_callk, i_calls, i_mm, i_copy, i_under, i_undld, i_ldcs, i_sw, q_swc0, q_swc1, q_lg0, q_lg1, q_lent0, q_lent1, lset, lset2, q_lins0, q_lins1, q_ldel0, q_ldel1, q_ldel20, q_ldel21, q_lkeep0, q_lkeep1, q_memb0, q_memb1, cat2, Nat.reduceBEq, decide_true, decide_false, decide_eq_true_eq, cond_true, cond_false, Bool.and_true, Bool.and_false, Bool.true_and, Bool.false_and, f_iadd, f_isub, f_imul, f_ishl, f_ishr, f_iushr, f_iand, f_ior, f_idiv, f_irem, f_ineg, f_i2b, f_i2s, f_ladd, f_lmul, c_eq, c_ne, c_lt, c_ge, c_gt, c_le, cc_eq, cc_ne, cc_lt, cc_ge, cc_gt, cc_le, rfo, aof, csum, Value.category, List.take, List.drop, List.reverse, List.reverseAux, List.map, List.sum_cons, List.sum_nil, List.cons_append, List.nil_append, Option.toList, List.mem_cons, List.not_mem_nil, List.length_cons, List.length_nil, reduceIte, Nat.reduceEqDiff, Nat.reduceAdd, Nat.reduceLeDiff, Nat.reduceLT, a_day, Nat.zero_ne_one, Nat.one_ne_zero, false_and, and_false, true_and, and_true, or_false, false_or, or_true, true_or, not_true_eq_false, not_false_eq_true, Nat.zero_add, Nat.add_zero, Nat.le_refl, Nat.lt_irrefl, Nat.zero_lt_succ, Nat.zero_le, forall_const, List.cons.injEq, Value.int.injEq, Value.ref.injEq, Value.long.injEq, and_assoc, exists_and_left, exists_eq_left']
    try simp only [forall_eq]
    rw [h6]
    refine ⟨fun h1 => ?_, fun h1 => ⟨c_0 hg, c_40 hg, fun h2 => ?_, fun h2 => ?_⟩⟩
    · rwa [b2i_f (fun z => i_not_le.mpr h1 z.1)] at h
    · rwa [b2i_f (fun z => i_not_lt.mpr h2 z.2)] at h
    · rwa [b2i_t ⟨i_not_lt.mp h1, i_not_le.mp h2⟩] at h
def T_X5_areEnds (g : WG) (as : List Value) (M : MM) (Q : Option Value → MM → Prop) : Prop := ∃ e, as = [.int e] ∧ Q (some (.int (b2i (0 ≤ e ∧ e / 100 ≤ e - e / 100 * 100 ∧ e - e / 100 * 100 ≤ 15)))) M
set_option maxRecDepth 100000 in
set_option maxHeartbeats 1000000 in
theorem t_X5_areEnds {l : Launch} {g : WG} (hg : Full g) : Ct l g yX5_areEnds cX5_areEnds 1 ((Option.some FieldType.boolean)) 1 (T_X5_areEnds g) := by
  refine Ct.of (by decide) (fun as M Q h => ?_) (fun p e s m args below meth c as M Q h C => ?_)
  · obtain ⟨ee, rfl, h⟩ := h; exact ⟨by simp, by simp [Value.category]⟩
  · obtain ⟨ee, rfl, h⟩ := h
    refine s_of (fun lv st M0 hs => ?_) (WX5_areEnds_0 C)
    obtain ⟨rfl, rfl, rfl⟩ := hs
    unfold BX5_areEnds_0
    simp only [i_const, i_lconst, i_iload, i_aload, i_lload, i_istore, i_astore, i_lstore, i_iinc, i_bin, i_div, i_un, i_i2l, i_l2i, i_lbin, i_lcmp, i_if, i_icmp, i_dup, i_dup_x1, i_dup2, i_pop, i_geti, i_getr, i_getd, i_puti, i_putz, i_putd, i_iald, i_bald, i_aald, i_iast, i_bast, i_alen, i_keep, i_ret, i_retz, i_reta, i_retl, i_retv, i_callv, i_callk, i_calls, i_mm, i_copy, i_under, i_undld, i_ldcs, i_sw, q_swc0, q_swc1, q_lg0, q_lg1, q_lent0, q_lent1, lset, lset2, q_lins0, q_lins1, q_ldel0, q_ldel1, q_ldel20, q_ldel21, q_lkeep0, q_lkeep1, q_memb0, q_memb1, cat2, Nat.reduceBEq, decide_true, decide_false, decide_eq_true_eq, cond_true, cond_false, Bool.and_true, Bool.and_false, Bool.true_and, Bool.false_and, f_iadd, f_isub, f_imul, f_ishl, f_ishr, f_iushr, f_iand, f_ior, f_idiv, f_irem, f_ineg, f_i2b, f_i2s, f_ladd, f_lmul, c_eq, c_ne, c_lt, c_ge, c_gt, c_le, cc_eq, cc_ne, cc_lt, cc_ge, cc_gt, cc_le, rfo, aof, csum, Value.category, List.take, List.drop, List.reverse, List.reverseAux, List.map, List.sum_cons, List.sum_nil, List.cons_append, List.nil_append, Option.toList, List.mem_cons, List.not_mem_nil, List.length_cons, List.length_nil, reduceIte, Nat.reduceEqDiff, Nat.reduceAdd, Nat.reduceLeDiff, Nat.reduceLT, a_day, Nat.zero_ne_one, Nat.one_ne_zero, false_and, and_false, true_and, and_true, or_false, false_or, or_true, true_or, not_true_eq_false, not_false_eq_true, Nat.zero_add, Nat.add_zero, Nat.le_refl, Nat.lt_irrefl, Nat.zero_lt_succ, Nat.zero_le, forall_const, List.cons.injEq, Value.int.injEq, Value.ref.injEq, Value.long.injEq, and_assoc, exists_and_left, exists_eq_left']
    try simp only [forall_eq]
    have e : (16 : Int32) ≤ ee - ee / 100 * 100 ↔ ¬ ee - ee / 100 * 100 ≤ 15 := by
      rw [i_le, i_le]
      have a : (16 : Int32).toInt = 16 := rfl
      have b : (15 : Int32).toInt = 15 := rfl
      rw [a, b]; omega
    rw [e]
    refine ⟨fun h1 => ?_, fun h1 => ⟨by decide, by decide, fun h2 => ?_, fun h2 => ⟨by decide, fun h3 => ?_, fun h3 => ?_⟩⟩⟩
    · rwa [b2i_f (fun z => i_not_le.mpr h1 z.1)] at h
    · rwa [b2i_f (fun z => i_not_lt.mpr z.2.1 h2)] at h
    · rwa [b2i_f (fun z => h3 z.2.2)] at h
    · rwa [b2i_t ⟨i_not_lt.mp h1, i_not_lt.mp h2, Decidable.not_not.mp h3⟩] at h
def T_X5_isFact (g : WG) (as : List Value) (M : MM) (Q : Option Value → MM → Prop) : Prop := ∃ w o n, as = [.ref 0, .int w, .int o] ∧ n < 100 ∧ M 40 6 = nI n ∧ ((w = 0 ∨ ((w = 1 ∨ (10 ≤ w ∧ w ≤ 12)) ∧ 0 ≤ o ∧ o ≤ 15) ∨ (¬ (10 ≤ w ∧ w ≤ 12) ∧ (2 ≤ w ∧ w ≤ 9) ∧ 0 ≤ o ∧ o < nI n)) → Q (some (.int 1)) M) ∧ (¬ (w = 0 ∨ ((w = 1 ∨ (10 ≤ w ∧ w ≤ 12)) ∧ 0 ≤ o ∧ o ≤ 15) ∨ (¬ (10 ≤ w ∧ w ≤ 12) ∧ (2 ≤ w ∧ w ≤ 9) ∧ 0 ≤ o ∧ o < nI n)) → Q (some (.int 0)) M)
set_option maxRecDepth 100000 in
set_option maxHeartbeats 1000000 in
theorem t_X5_isFact {l : Launch} {g : WG} (hg : Full g) : Ct l g yX5_isFact cX5_isFact 3 ((Option.some FieldType.boolean)) 2 (T_X5_isFact g) := by
  refine Ct.of (by decide) (fun as M Q h => ?_) (fun p e s m args below meth c as M Q h C => ?_)
  · obtain ⟨w, o, n, rfl, hn, h6, h1, h0⟩ := h; exact ⟨by simp, by simp [Value.category]⟩
  · obtain ⟨w, o, n, rfl, hn, h6, h1, h0⟩ := h
    refine s_of (fun lv st M0 hs => ?_) (WX5_isFact_0 C (t_X5_isSeam hg) (by decide))
    obtain ⟨rfl, rfl, rfl⟩ := hs
    unfold BX5_isFact_0
    generalize hB23 : BX5_isFact_23 g Q (T_X5_isSeam g) = B23
    generalize hB39 : BX5_isFact_39 g Q (T_X5_isSeam g) = B39
    simp only [T_X5_isSeam, i_const, i_lconst, i_iload, i_aload, i_lload, i_istore, i_astore, i_lstore, i_iinc, i_bin, i_div, i_un, i_i2l, i_l2i, i_lbin, i_lcmp, i_if, i_icmp, i_dup, i_dup_x1, i_dup2, i_pop, i_geti, i_getr, i_getd, i_puti, i_putz, i_putd, i_iald, i_bald, i_aald, i_iast, i_bast, i_alen, i_keep, i_ret, i_retz, i_reta, i_retl, i_retv, i_callv, i_callk, i_calls, i_mm, i_copy, i_under, i_undld, i_ldcs, i_sw, q_swc0, q_swc1, q_lg0, q_lg1, q_lent0, q_lent1, lset, lset2, q_lins0, q_lins1, q_ldel0, q_ldel1, q_ldel20, q_ldel21, q_lkeep0, q_lkeep1, q_memb0, q_memb1, cat2, Nat.reduceBEq, decide_true, decide_false, decide_eq_true_eq, cond_true, cond_false, Bool.and_true, Bool.and_false, Bool.true_and, Bool.false_and, f_iadd, f_isub, f_imul, f_ishl, f_ishr, f_iushr, f_iand, f_ior, f_idiv, f_irem, f_ineg, f_i2b, f_i2s, f_ladd, f_lmul, c_eq, c_ne, c_lt, c_ge, c_gt, c_le, cc_eq, cc_ne, cc_lt, cc_ge, cc_gt, cc_le, rfo, aof, csum, Value.category, List.take, List.drop, List.reverse, List.reverseAux, List.map, List.sum_cons, List.sum_nil, List.cons_append, List.nil_append, Option.toList, List.mem_cons, List.not_mem_nil, List.length_cons, List.length_nil, reduceIte, Nat.reduceEqDiff, Nat.reduceAdd, Nat.reduceLeDiff, Nat.reduceLT, a_day, Nat.zero_ne_one, Nat.one_ne_zero, false_and, and_false, true_and, and_true, or_false, false_or, or_true, true_or, not_true_eq_false, not_false_eq_true, Nat.zero_add, Nat.add_zero, Nat.le_refl, Nat.lt_irrefl, Nat.zero_lt_succ, Nat.zero_le, forall_const, List.cons.injEq, Value.int.injEq, Value.ref.injEq, Value.long.injEq, and_assoc, exists_and_left, exists_eq_left']
    try simp only [forall_eq]
    have e16 : (16 : Int32) ≤ o ↔ ¬ o ≤ 15 := by
      rw [i_le, i_le]
      have a : (16 : Int32).toInt = 16 := rfl
      have b : (15 : Int32).toInt = 15 := rfl
      rw [a, b]; omega
    have g23 : ¬ w = 0 → (w = 1 ∨ (10 ≤ w ∧ w ≤ 12)) → BX5_isFact_23 g Q (T_X5_isSeam g) [(0, .ref 0), (1, .int w), (2, .int o)] [] M0 := by
      intro w0 c
      unfold BX5_isFact_23
      simp only [i_const, i_lconst, i_iload, i_aload, i_lload, i_istore, i_astore, i_lstore, i_iinc, i_bin, i_div, i_un, i_i2l, i_l2i, i_lbin, i_lcmp, i_if, i_icmp, i_dup, i_dup_x1, i_dup2, i_pop, i_geti, i_getr, i_getd, i_puti, i_putz, i_putd, i_iald, i_bald, i_aald, i_iast, i_bast, i_alen, i_keep, i_ret, i_retz, i_reta, i_retl, i_retv, i_callv, i_callk, i_calls, i_mm, i_copy, i_under, i_undld, i_ldcs, i_sw, q_swc0, q_swc1, q_lg0, q_lg1, q_lent0, q_lent1, lset, lset2, q_lins0, q_lins1, q_ldel0, q_ldel1, q_ldel20, q_ldel21, q_lkeep0, q_lkeep1, q_memb0, q_memb1, cat2, Nat.reduceBEq, decide_true, decide_false, decide_eq_true_eq, cond_true, cond_false, Bool.and_true, Bool.and_false, Bool.true_and, Bool.false_and, f_iadd, f_isub, f_imul, f_ishl, f_ishr, f_iushr, f_iand, f_ior, f_idiv, f_irem, f_ineg, f_i2b, f_i2s, f_ladd, f_lmul, c_eq, c_ne, c_lt, c_ge, c_gt, c_le, cc_eq, cc_ne, cc_lt, cc_ge, cc_gt, cc_le, rfo, aof, csum, Value.category, List.take, List.drop, List.reverse, List.reverseAux, List.map, List.sum_cons, List.sum_nil, List.cons_append, List.nil_append, Option.toList, List.mem_cons, List.not_mem_nil, List.length_cons, List.length_nil, reduceIte, Nat.reduceEqDiff, Nat.reduceAdd, Nat.reduceLeDiff, Nat.reduceLT, a_day, Nat.zero_ne_one, Nat.one_ne_zero, false_and, and_false, true_and, and_true, or_false, false_or, or_true, true_or, not_true_eq_false, not_false_eq_true, Nat.zero_add, Nat.add_zero, Nat.le_refl, Nat.lt_irrefl, Nat.zero_lt_succ, Nat.zero_le, forall_const, List.cons.injEq, Value.int.injEq, Value.ref.injEq, Value.long.injEq, and_assoc, exists_and_left, exists_eq_left', forall_eq]
      rw [e16]
      have nn : ¬ (¬ (10 ≤ w ∧ w ≤ 12) ∧ (2 ≤ w ∧ w ≤ 9) ∧ 0 ≤ o ∧ o < nI n) := fun q => by
        rcases c with c | c
        · rw [c] at q; exact absurd q.2.1.1 (by decide)
        · exact q.1 c
      refine ⟨fun y => h0 (fun q => ?_), fun y => ⟨fun u => h0 (fun q => ?_), fun u => h1 (Or.inr (Or.inl ⟨c, i_not_lt.mp y, Decidable.not_not.mp u⟩))⟩⟩
      · rcases q with q | q | q
        · exact w0 q
        · exact i_not_lt.mpr q.2.1 y
        · exact nn q
      · rcases q with q | q | q
        · exact w0 q
        · exact u q.2.2
        · exact nn q
    have g39 : ¬ w = 0 → ¬ (w = 1 ∨ (10 ≤ w ∧ w ≤ 12)) → BX5_isFact_39 g Q (T_X5_isSeam g) [(0, .ref 0), (1, .int w), (2, .int o)] [] M0 := by
      intro w0 c
      unfold BX5_isFact_39
      generalize hB55 : BX5_isFact_55 g Q (T_X5_isSeam g) = B55
      simp only [T_X5_isSeam, i_const, i_lconst, i_iload, i_aload, i_lload, i_istore, i_astore, i_lstore, i_iinc, i_bin, i_div, i_un, i_i2l, i_l2i, i_lbin, i_lcmp, i_if, i_icmp, i_dup, i_dup_x1, i_dup2, i_pop, i_geti, i_getr, i_getd, i_puti, i_putz, i_putd, i_iald, i_bald, i_aald, i_iast, i_bast, i_alen, i_keep, i_ret, i_retz, i_reta, i_retl, i_retv, i_callv, i_callk, i_calls, i_mm, i_copy, i_under, i_undld, i_ldcs, i_sw, q_swc0, q_swc1, q_lg0, q_lg1, q_lent0, q_lent1, lset, lset2, q_lins0, q_lins1, q_ldel0, q_ldel1, q_ldel20, q_ldel21, q_lkeep0, q_lkeep1, q_memb0, q_memb1, cat2, Nat.reduceBEq, decide_true, decide_false, decide_eq_true_eq, cond_true, cond_false, Bool.and_true, Bool.and_false, Bool.true_and, Bool.false_and, f_iadd, f_isub, f_imul, f_ishl, f_ishr, f_iushr, f_iand, f_ior, f_idiv, f_irem, f_ineg, f_i2b, f_i2s, f_ladd, f_lmul, c_eq, c_ne, c_lt, c_ge, c_gt, c_le, cc_eq, cc_ne, cc_lt, cc_ge, cc_gt, cc_le, rfo, aof, csum, Value.category, List.take, List.drop, List.reverse, List.reverseAux, List.map, List.sum_cons, List.sum_nil, List.cons_append, List.nil_append, Option.toList, List.mem_cons, List.not_mem_nil, List.length_cons, List.length_nil, reduceIte, Nat.reduceEqDiff, Nat.reduceAdd, Nat.reduceLeDiff, Nat.reduceLT, a_day, Nat.zero_ne_one, Nat.one_ne_zero, false_and, and_false, true_and, and_true, or_false, false_or, or_true, true_or, not_true_eq_false, not_false_eq_true, Nat.zero_add, Nat.add_zero, Nat.le_refl, Nat.lt_irrefl, Nat.zero_lt_succ, Nat.zero_le, forall_const, List.cons.injEq, Value.int.injEq, Value.ref.injEq, Value.long.injEq, and_assoc, exists_and_left, exists_eq_left', forall_eq]
      refine ⟨fun y => h0 (fun q => ?_), fun y => ⟨fun u => h0 (fun q => ?_), fun u => ⟨(c_0 hg).1, (c_0 hg).2.1, n, hn, h6, ?_⟩⟩⟩
      · rcases q with q | q | q
        · exact w0 q
        · exact c q.1
        · exact i_not_lt.mpr q.2.1.1 y
      · rcases q with q | q | q
        · exact w0 q
        · exact c q.1
        · exact i_not_lt.mpr q.2.1.2 u
      · subst hB55
        unfold BX5_isFact_55
        simp only [T_X5_isSeam, i_const, i_lconst, i_iload, i_aload, i_lload, i_istore, i_astore, i_lstore, i_iinc, i_bin, i_div, i_un, i_i2l, i_l2i, i_lbin, i_lcmp, i_if, i_icmp, i_dup, i_dup_x1, i_dup2, i_pop, i_geti, i_getr, i_getd, i_puti, i_putz, i_putd, i_iald, i_bald, i_aald, i_iast, i_bast, i_alen, i_keep, i_ret, i_retz, i_reta, i_retl, i_retv, i_callv, i_callk, i_calls, i_mm, i_copy, i_under, i_undld, i_ldcs, i_sw, q_swc0, q_swc1, q_lg0, q_lg1, q_lent0, q_lent1, lset, lset2, q_lins0, q_lins1, q_ldel0, q_ldel1, q_ldel20, q_ldel21, q_lkeep0, q_lkeep1, q_memb0, q_memb1, cat2, Nat.reduceBEq, decide_true, decide_false, decide_eq_true_eq, cond_true, cond_false, Bool.and_true, Bool.and_false, Bool.true_and, Bool.false_and, f_iadd, f_isub, f_imul, f_ishl, f_ishr, f_iushr, f_iand, f_ior, f_idiv, f_irem, f_ineg, f_i2b, f_i2s, f_ladd, f_lmul, c_eq, c_ne, c_lt, c_ge, c_gt, c_le, cc_eq, cc_ne, cc_lt, cc_ge, cc_gt, cc_le, rfo, aof, csum, Value.category, List.take, List.drop, List.reverse, List.reverseAux, List.map, List.sum_cons, List.sum_nil, List.cons_append, List.nil_append, Option.toList, List.mem_cons, List.not_mem_nil, List.length_cons, List.length_nil, reduceIte, Nat.reduceEqDiff, Nat.reduceAdd, Nat.reduceLeDiff, Nat.reduceLT, a_day, Nat.zero_ne_one, Nat.one_ne_zero, false_and, and_false, true_and, and_true, or_false, false_or, or_true, true_or, not_true_eq_false, not_false_eq_true, Nat.zero_add, Nat.add_zero, Nat.le_refl, Nat.lt_irrefl, Nat.zero_lt_succ, Nat.zero_le, forall_const, List.cons.injEq, Value.int.injEq, Value.ref.injEq, Value.long.injEq, and_assoc, exists_and_left, exists_eq_left']
        try simp only [forall_eq]
        refine ⟨fun z => h0 (fun q => ?_), fun z => h1 (Or.inr (Or.inr ⟨fun q => c (Or.inr q), ⟨i_not_lt.mp y, i_not_lt.mp u⟩, b2t z⟩))⟩
        rcases q with q | q | q
        · exact w0 q
        · exact c q.1
        · exact b2n z q.2.2
    refine ⟨fun w0 => ⟨fun w1 => ?_, fun w1 => ⟨fun w2 => ?_, fun w2 => ⟨fun w3 => ?_, fun w3 => ?_⟩⟩⟩, fun w0 => h1 (Or.inl (Decidable.not_not.mp w0))⟩
    · subst_vars; exact g23 (by decide) (Or.inl rfl)
    · subst hB39; exact g39 w0 (fun q => q.elim w1 (fun q => i_not_lt.mpr q.1 w2))
    · subst hB39; exact g39 w0 (fun q => q.elim w1 (fun q => i_not_lt.mpr q.2 w3))
    · subst hB23; exact g23 w0 (Or.inr ⟨i_not_lt.mp w2, i_not_lt.mp w3⟩)
def T_X5_mayBecome (g : WG) (as : List Value) (M : MM) (Q : Option Value → MM → Prop) : Prop := ∃ w v, as = [.int w, .int v] ∧ (isFitA w v → Q (some (.int 1)) M) ∧ (¬ isFitA w v → Q (some (.int 0)) M)
set_option maxRecDepth 100000 in
set_option maxHeartbeats 1000000 in
theorem t_X5_mayBecome {l : Launch} {g : WG} (hg : Full g) : Ct l g yX5_mayBecome cX5_mayBecome 2 ((Option.some FieldType.boolean)) 2 (T_X5_mayBecome g) := by
  refine Ct.of (by decide) (fun as M Q h => ?_) (fun p e s m args below meth c as M Q h C => ?_)
  · obtain ⟨w, v, rfl, h1, h0⟩ := h; exact ⟨by simp, by simp [Value.category]⟩
  · obtain ⟨w, v, rfl, h1, h0⟩ := h
    refine s_of (fun lv st M0 hs => ?_) (WX5_mayBecome_0 C (t_X5_isNumber hg) (by decide))
    obtain ⟨rfl, rfl, rfl⟩ := hs
    unfold BX5_mayBecome_0
    simp only [T_X5_isNumber, i_const, i_lconst, i_iload, i_aload, i_lload, i_istore, i_astore, i_lstore, i_iinc, i_bin, i_div, i_un, i_i2l, i_l2i, i_lbin, i_lcmp, i_if, i_icmp, i_dup, i_dup_x1, i_dup2, i_pop, i_geti, i_getr, i_getd, i_puti, i_putz, i_putd, i_iald, i_bald, i_aald, i_iast, i_bast, i_alen, i_keep, i_ret, i_retz, i_reta, i_retl, i_retv, i_callv, i_callk, i_calls, i_mm, i_copy, i_under, i_undld, i_ldcs, i_sw, q_swc0, q_swc1, q_lg0, q_lg1, q_lent0, q_lent1, lset, lset2, q_lins0, q_lins1, q_ldel0, q_ldel1, q_ldel20, q_ldel21, q_lkeep0, q_lkeep1, q_memb0, q_memb1, cat2, Nat.reduceBEq, decide_true, decide_false, decide_eq_true_eq, cond_true, cond_false, Bool.and_true, Bool.and_false, Bool.true_and, Bool.false_and, f_iadd, f_isub, f_imul, f_ishl, f_ishr, f_iushr, f_iand, f_ior, f_idiv, f_irem, f_ineg, f_i2b, f_i2s, f_ladd, f_lmul, c_eq, c_ne, c_lt, c_ge, c_gt, c_le, cc_eq, cc_ne, cc_lt, cc_ge, cc_gt, cc_le, rfo, aof, csum, Value.category, List.take, List.drop, List.reverse, List.reverseAux, List.map, List.sum_cons, List.sum_nil, List.cons_append, List.nil_append, Option.toList, List.mem_cons, List.not_mem_nil, List.length_cons, List.length_nil, reduceIte, Nat.reduceEqDiff, Nat.reduceAdd, Nat.reduceLeDiff, Nat.reduceLT, a_day, Nat.zero_ne_one, Nat.one_ne_zero, false_and, and_false, true_and, and_true, or_false, false_or, or_true, true_or, not_true_eq_false, not_false_eq_true, Nat.zero_add, Nat.add_zero, Nat.le_refl, Nat.lt_irrefl, Nat.zero_lt_succ, Nat.zero_le, forall_const, List.cons.injEq, Value.int.injEq, Value.ref.injEq, Value.long.injEq, and_assoc, exists_and_left, exists_eq_left']
    try simp only [forall_eq]
    refine ⟨fun e => ⟨fun y => h0 ?_, fun y => ⟨fun u => h0 ?_, fun u => h1 ?_⟩⟩, fun e0 => ⟨fun e => ⟨fun y => h0 ?_, fun y => ⟨fun u => h0 ?_, fun u => h1 ?_⟩⟩, fun e1 => ⟨fun e => ⟨b2i_z _, ?_⟩, fun e2 => ⟨fun e => ⟨fun y => h0 ?_, fun y => ⟨fun u => h0 ?_, fun u => h1 ?_⟩⟩, fun e3 => ⟨fun y => h1 ?_, fun y => ⟨fun u => h0 ?_, fun u => h1 ?_⟩⟩⟩⟩⟩⟩
    · subst e; simp only [isFitA]; simp; exact fun q => absurd q (i_not_le.mpr y)
    · subst e; simp only [isFitA]; simp; exact fun _ => u
    · subst e; simp only [isFitA]; simp; exact ⟨i_not_lt.mp y, i_not_lt.mp u⟩
    · subst e; simp only [isFitA]; simp; exact fun q => absurd q (i_not_le.mpr y)
    · subst e; simp only [isFitA]; simp; exact fun _ => u
    · subst e; simp only [isFitA]; simp; exact ⟨i_not_lt.mp y, i_not_lt.mp u⟩
    · subst e
      by_cases c : 0 ≤ v ∧ v ≤ 9
      · rw [b2i_t c]; exact h1 (Or.inr (Or.inr (Or.inl ⟨rfl, c⟩)))
      · rw [b2i_f c]; exact h0 (by simp only [isFitA]; simp; exact fun q => i_not_le.mp (fun r => c ⟨q, r⟩))
    · subst e; simp only [isFitA]; simp; exact fun q => absurd q (i_not_le.mpr y)
    · subst e; simp only [isFitA]; simp; exact fun _ => u
    · subst e; simp only [isFitA]; simp; exact ⟨i_not_lt.mp y, i_not_lt.mp u⟩
    · exact Or.inr (Or.inr (Or.inr (Or.inr ⟨e0, e1, e2, e3, by rw [y]; decide, by rw [y]; decide⟩)))
    · intro q
      rcases q with q | q | q | q | q
      · exact e0 q.1
      · exact e1 q.1
      · exact e2 q.1
      · exact e3 q.1
      · exact ((ask_01 v).mp q.2.2.2.2).elim y u
    · exact Or.inr (Or.inr (Or.inr (Or.inr ⟨e0, e1, e2, e3, (ask_01 v).mpr (Or.inr (Decidable.not_not.mp u))⟩)))
    
