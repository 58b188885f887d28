/-! ===== the model's tokens: words as numbers ===== -/
def cW (w : Nat) : Int32 := [175125302, 464144, 212302449, 7720, 2968, 10196893, 8925490, 12322792, 283288069, 423, 1111, 10631].getD w 0
def hN (f : Nat → Int32) (p : Nat) : Nat → Nat
  | 0 => 0
  | k + 1 => 27 * hN f p k + ((f (p + k)).toNatClampNeg - 96)
def spW (w j : Nat) : Int32 := (bytS.getD (w + 1) []).getD j 0
theorem ltr_n {c : Int32} (h : ltr c = true) : ∃ b, 97 ≤ b ∧ b ≤ 122 ∧ c = nI b := by
  obtain ⟨h1, h2⟩ := of_decide_eq_true h
  obtain ⟨k, hk, rfl⟩ := nI_of (x := c) (i_not_lt.mpr (by rw [i_le] at h1 ⊢; exact Int.le_trans (by decide) h1))
  exact ⟨k, (nI_leI (a := 97) (by decide) hk).mp h1, (nI_leI (b := 122) hk (by decide)).mp h2, rfl⟩
theorem cW_h : ∀ w, w < 12 → cW w = nI (hN (spW w) 0 (lenS.getD (w + 1) 0)) ∧ lenS.getD (w + 1) 0 ≤ 6 := by decide +kernel
theorem spW_l : ∀ w, w < 12 → ∀ j, j < lenS.getD (w + 1) 0 → ltr (spW w j) = true := by
  have : ∀ w, w < 12 → ∀ j, j < 6 → j < lenS.getD (w + 1) 0 → ltr (spW w j) = true := by decide +kernel
  intro w hw j hj
  exact this w hw j (by have := (cW_h w hw).2; omega) hj
theorem hN_lt (f : Nat → Int32) (p : Nat) : ∀ k, (∀ t, t < k → ltr (f (p + t)) = true) → hN f p k < 27 ^ k
  | 0, _ => Nat.zero_lt_one
  | k + 1, h => by
    have := hN_lt f p k (fun t ht => h t (by omega))
    obtain ⟨b, h1, h2, e⟩ := ltr_n (h k (by omega))
    simp only [hN]
    rw [e, nI_clamp (by omega), Nat.pow_succ]
    omega
theorem hN_6 {f : Nat → Int32} {p k : Nat} (hk : k ≤ 6) (h : ∀ t, t < k → ltr (f (p + t)) = true) : hN f p k < 2 ^ 31 - 1 :=
  Nat.lt_of_lt_of_le (hN_lt f p k h) (Nat.le_trans (Nat.pow_le_pow_right (by decide) hk) (by decide))
theorem hN_inj {f g : Nat → Int32} {p q : Nat} : ∀ k k', (∀ t, t < k → ltr (f (p + t)) = true) → (∀ t, t < k' → ltr (g (q + t)) = true) → hN f p k = hN g q k' → k = k' ∧ ∀ t, t < k → f (p + t) = g (q + t)
  | 0, 0, _, _, _ => ⟨rfl, fun t ht => absurd ht (by omega)⟩
  | 0, k' + 1, _, h2, e => by
    obtain ⟨b, b1, b2, eb⟩ := ltr_n (h2 k' (by omega))
    simp only [hN] at e
    rw [eb, nI_clamp (by omega)] at e
    omega
  | k + 1, 0, h1, _, e => by
    obtain ⟨b, b1, b2, eb⟩ := ltr_n (h1 k (by omega))
    simp only [hN] at e
    rw [eb, nI_clamp (by omega)] at e
    omega
  | k + 1, k' + 1, h1, h2, e => by
    obtain ⟨b, b1, b2, eb⟩ := ltr_n (h1 k (by omega))
    obtain ⟨d, d1, d2, ed⟩ := ltr_n (h2 k' (by omega))
    simp only [hN] at e
    rw [eb, ed, nI_clamp (by omega), nI_clamp (by omega)] at e
    have hbd : b = d := by omega
    obtain ⟨r1, r2⟩ := hN_inj k k' (fun t ht => h1 t (by omega)) (fun t ht => h2 t (by omega)) (by omega)
    subst r1
    refine ⟨rfl, fun t ht => ?_⟩
    by_cases c : t = k
    · rw [c, eb, ed, hbd]
    · exact r2 t (by omega)
theorem spB_iff {B : Nat → Int32} {p q w : Nat} : spB B p q (w + 1) = true ↔ q - p = lenS.getD (w + 1) 0 ∧ ∀ t, t < lenS.getD (w + 1) 0 → B (p + t) = spW w t := by
  unfold spB spW
  rw [Bool.and_eq_true, decide_eq_true_eq, List.all_eq_true]
  constructor
  · rintro ⟨a, b⟩
    exact ⟨a, fun t ht => of_decide_eq_true (b t (List.mem_range.mpr ht))⟩
  · rintro ⟨a, b⟩
    exact ⟨a, fun t ht => decide_eq_true (b t (List.mem_range.mp ht))⟩
/-- the number of a word from p, k letters -/
def wdN (B : Nat → Int32) (p k : Nat) : Int32 := if 6 < k then -1 else nI (hN B p k)
theorem hN_congr {f g : Nat → Int32} {p q : Nat} : ∀ k, (∀ t, t < k → f (p + t) = g (q + t)) → hN f p k = hN g q k
  | 0, _ => rfl
  | k + 1, h => by simp only [hN]; rw [hN_congr k (fun t ht => h t (by omega)), h k (by omega)]
theorem wdN_sp {B : Nat → Int32} {p q w : Nat} (hw : w < 12) (hl : ∀ t, t < q - p → ltr (B (p + t)) = true) : wdN B p (q - p) = cW w ↔ spB B p q (w + 1) = true := by
  obtain ⟨e1, e6⟩ := cW_h w hw
  rw [spB_iff]
  have hs := spW_l w hw
  unfold wdN
  constructor
  · intro h
    split at h
    · exact absurd h.symm ((show ∀ w, w < 12 → ¬ cW w = -1 by decide +kernel) w hw)
    · rw [e1] at h
      have e := (nI_eq (Nat.lt_of_lt_of_le (hN_6 (by omega) hl) (by decide)) (Nat.lt_of_lt_of_le (hN_6 e6 (fun t ht => by rw [Nat.zero_add]; exact hs t ht)) (by decide))).mp h
      obtain ⟨r1, r2⟩ := hN_inj _ _ hl (fun t ht => by rw [Nat.zero_add]; exact hs t ht) e
      refine ⟨r1, fun t ht => ?_⟩
      have := r2 t (by omega)
      rwa [Nat.zero_add] at this
  · rintro ⟨a, b⟩
    rw [if_neg (by omega), e1, a]
    congr 1
    exact hN_congr _ (fun t ht => by rw [Nat.zero_add]; exact b t ht)
theorem wfd_hit (f : Nat → Bool) : ∀ k w, wfd f k w < w + k → f (wfd f k w) = true
  | 0, w, h => by simp [wfd] at h
  | k + 1, w, h => by
    simp only [wfd] at h ⊢
    split
    · assumption
    · next c => rw [if_neg c] at h; exact wfd_hit f k (w + 1) (by omega)
theorem wfd_miss (f : Nat → Bool) : ∀ k w j, w + k ≤ wfd f k w → w ≤ j → j < w + k → ¬ f j = true
  | 0, w, j, _, _, _ => by omega
  | k + 1, w, j, h, h1, h2 => by
    simp only [wfd] at h
    split at h
    · omega
    · next c =>
      by_cases e : j = w
      · rw [e]; exact c
      · exact wfd_miss f k (w + 1) j (by omega) (by omega) (by omega)
theorem wix_hit {B : Nat → Int32} {p q : Nat} (h : wix B p q < 12) (hl : ∀ t, t < q - p → ltr (B (p + t)) = true) : wdN B p (q - p) = cW (wix B p q) :=
  (wdN_sp h hl).mpr (wfd_hit _ 12 0 (by simpa [wix] using h))
theorem wix_miss {B : Nat → Int32} {p q : Nat} (h : 12 ≤ wix B p q) (hl : ∀ t, t < q - p → ltr (B (p + t)) = true) {w : Nat} (hw : w < 12) : ¬ wdN B p (q - p) = cW w := by
  rw [wdN_sp hw hl]
  exact wfd_miss _ 12 0 w (by simpa [wix] using h) (Nat.zero_le _) (by omega)
theorem cW_inj : ∀ a, a < 12 → ∀ b, b < 12 → cW a = cW b → a = b := by decide +kernel
/-- the model's token, as a sort and a value -/
def TKm (M : MM) (s v : Int32) : Prop := (s = 0 ∧ M 76 19 = 101) ∨ (s = 1 ∧ M 76 19 = 120) ∨ (s = 2 ∧ M 76 19 = 48 ∧ M 76 20 = v) ∨ (∃ w, w < 12 ∧ M 76 19 = 119 ∧ M 76 21 = cW w ∧ s = (if w < 6 then 3 else nI (w - 2)) ∧ (w < 6 → v = nI w)) ∨ (sig s = true ∧ M 76 19 = s)
theorem m_r {g : WG} (hg : Full g) : Reg g 3 32 := tape_r hg
def T_X6_isLetter (g : WG) (as : List Value) (M : MM) (Q : Option Value → MM → Prop) : Prop := ∃ c, as = [.int c] ∧ Q (some (.int (b2i (ltr c = true)))) M
set_option maxRecDepth 100000 in
set_option maxHeartbeats 1000000 in
theorem t_X6_isLetter {l : Launch} {g : WG} (hg : Full g) : Ct l g yX6_isLetter cX6_isLetter 1 ((Option.some FieldType.boolean)) 1 (T_X6_isLetter g) := by
  refine Ct.of (by decide) (fun as M Q h => ?_) (fun p e s m args below meth c as M Q h C => ?_)
  · obtain ⟨x, rfl, h⟩ := h; exact ⟨by simp, by simp [Value.category]⟩
  · obtain ⟨x, rfl, h⟩ := h
    refine s_of (fun lv st M0 hs => ?_) (WX6_isLetter_0 C)
    obtain ⟨rfl, rfl, rfl⟩ := hs
    unfold BX6_isLetter_0
    simp only [i_const, i_lconst, i_iload, i_aload, i_lload, i_istore, i_astore, i_lstore, i_iinc, i_bin, i_div, i_un, i_i2l, i_l2i, i_lbin, i_lcmp, i_if, i_icmp, i_dup, i_dup_x1, i_dup2, i_pop, i_geti, i_getr, i_getd, i_puti, i_putz, i_putd, i_iald, i_bald, i_aald, i_iast, i_bast, i_alen, i_keep, i_ret, i_retz, i_reta, i_retl, i_retv, i_callv, i_callk, i_calls, i_mm, i_copy, i_under, i_undld, i_ldcs, i_sw, q_swc0, q_swc1, q_lg0, q_lg1, q_lent0, q_lent1, lset, lset2, q_lins0, q_lins1, q_ldel0, q_ldel1, q_ldel20, q_ldel21, q_lkeep0, q_lkeep1, q_memb0, q_memb1, cat2, Nat.reduceBEq, decide_true, decide_false, decide_eq_true_eq, cond_true, cond_false, Bool.and_true, Bool.and_false, Bool.true_and, Bool.false_and, f_iadd, f_isub, f_imul, f_ishl, f_ishr, f_iushr, f_iand, f_ior, f_idiv, f_irem, f_ineg, f_i2b, f_i2s, f_ladd, f_lmul, c_eq, c_ne, c_lt, c_ge, c_gt, c_le, cc_eq, cc_ne, cc_lt, cc_ge, cc_gt, cc_le, rfo, aof, csum, Value.category, List.take, List.drop, List.reverse, List.reverseAux, List.map, List.sum_cons, List.sum_nil, List.cons_append, List.nil_append, Option.toList, List.mem_cons, List.not_mem_nil, List.length_cons, List.length_nil, reduceIte, Nat.reduceEqDiff, Nat.reduceAdd, Nat.reduceLeDiff, Nat.reduceLT, a_day, Nat.zero_ne_one, Nat.one_ne_zero, false_and, and_false, true_and, and_true, or_false, false_or, or_true, true_or, not_true_eq_false, not_false_eq_true, Nat.zero_add, Nat.add_zero, Nat.le_refl, Nat.lt_irrefl, Nat.zero_lt_succ, Nat.zero_le, forall_const, List.cons.injEq, Value.int.injEq, Value.ref.injEq, Value.long.injEq, and_assoc, exists_and_left, exists_eq_left']
    try simp only [forall_eq]
    refine ⟨fun y => ?_, fun y => ⟨fun u => ?_, fun u => ?_⟩⟩
    · rwa [b2i_f (fun q => i_not_lt.mpr (of_decide_eq_true q).1 y)] at h
    · rwa [b2i_f (fun q => i_not_le.mpr u (of_decide_eq_true q).2)] at h
    · have c : ltr x = true := decide_eq_true ⟨i_not_lt.mp y, i_not_lt.mp u⟩
      rwa [b2i_t c] at h
def T_X6_isDigit (g : WG) (as : List Value) (M : MM) (Q : Option Value → MM → Prop) : Prop := ∃ c, as = [.int c] ∧ Q (some (.int (b2i (dig c = true)))) M
set_option maxRecDepth 100000 in
set_option maxHeartbeats 1000000 in
theorem t_X6_isDigit {l : Launch} {g : WG} (hg : Full g) : Ct l g yX6_isDigit cX6_isDigit 1 ((Option.some FieldType.boolean)) 1 (T_X6_isDigit g) := by
  refine Ct.of (by decide) (fun as M Q h => ?_) (fun p e s m args below meth c as M Q h C => ?_)
  · obtain ⟨x, rfl, h⟩ := h; exact ⟨by simp, by simp [Value.category]⟩
  · obtain ⟨x, rfl, h⟩ := h
    refine s_of (fun lv st M0 hs => ?_) (WX6_isDigit_0 C)
    obtain ⟨rfl, rfl, rfl⟩ := hs
    unfold BX6_isDigit_0
    simp only [i_const, i_lconst, i_iload, i_aload, i_lload, i_istore, i_astore, i_lstore, i_iinc, i_bin, i_div, i_un, i_i2l, i_l2i, i_lbin, i_lcmp, i_if, i_icmp, i_dup, i_dup_x1, i_dup2, i_pop, i_geti, i_getr, i_getd, i_puti, i_putz, i_putd, i_iald, i_bald, i_aald, i_iast, i_bast, i_alen, i_keep, i_ret, i_retz, i_reta, i_retl, i_retv, i_callv, i_callk, i_calls, i_mm, i_copy, i_under, i_undld, i_ldcs, i_sw, q_swc0, q_swc1, q_lg0, q_lg1, q_lent0, q_lent1, lset, lset2, q_lins0, q_lins1, q_ldel0, q_ldel1, q_ldel20, q_ldel21, q_lkeep0, q_lkeep1, q_memb0, q_memb1, cat2, Nat.reduceBEq, decide_true, decide_false, decide_eq_true_eq, cond_true, cond_false, Bool.and_true, Bool.and_false, Bool.true_and, Bool.false_and, f_iadd, f_isub, f_imul, f_ishl, f_ishr, f_iushr, f_iand, f_ior, f_idiv, f_irem, f_ineg, f_i2b, f_i2s, f_ladd, f_lmul, c_eq, c_ne, c_lt, c_ge, c_gt, c_le, cc_eq, cc_ne, cc_lt, cc_ge, cc_gt, cc_le, rfo, aof, csum, Value.category, List.take, List.drop, List.reverse, List.reverseAux, List.map, List.sum_cons, List.sum_nil, List.cons_append, List.nil_append, Option.toList, List.mem_cons, List.not_mem_nil, List.length_cons, List.length_nil, reduceIte, Nat.reduceEqDiff, Nat.reduceAdd, Nat.reduceLeDiff, Nat.reduceLT, a_day, Nat.zero_ne_one, Nat.one_ne_zero, false_and, and_false, true_and, and_true, or_false, false_or, or_true, true_or, not_true_eq_false, not_false_eq_true, Nat.zero_add, Nat.add_zero, Nat.le_refl, Nat.lt_irrefl, Nat.zero_lt_succ, Nat.zero_le, forall_const, List.cons.injEq, Value.int.injEq, Value.ref.injEq, Value.long.injEq, and_assoc, exists_and_left, exists_eq_left']
    try simp only [forall_eq]
    refine ⟨fun y => ?_, fun y => ⟨fun u => ?_, fun u => ?_⟩⟩
    · rwa [b2i_f (fun q => i_not_lt.mpr (of_decide_eq_true q).1 y)] at h
    · rwa [b2i_f (fun q => i_not_le.mpr u (of_decide_eq_true q).2)] at h
    · have c : dig x = true := decide_eq_true ⟨i_not_lt.mp y, i_not_lt.mp u⟩
      rwa [b2i_t c] at h
def T_X6_isSign (g : WG) (as : List Value) (M : MM) (Q : Option Value → MM → Prop) : Prop := ∃ c, as = [.int c] ∧ Q (some (.int (b2i (sig c = true)))) M
set_option maxRecDepth 100000 in
set_option maxHeartbeats 1000000 in
theorem t_X6_isSign {l : Launch} {g : WG} (hg : Full g) : Ct l g yX6_isSign cX6_isSign 1 ((Option.some FieldType.boolean)) 1 (T_X6_isSign g) := by
  refine Ct.of (by decide) (fun as M Q h => ?_) (fun p e s m args below meth c as M Q h C => ?_)
  · obtain ⟨x, rfl, h⟩ := h; exact ⟨by simp, by simp [Value.category]⟩
  · obtain ⟨x, rfl, h⟩ := h
    refine s_of (fun lv st M0 hs => ?_) (WX6_isSign_0 C)
    obtain ⟨rfl, rfl, rfl⟩ := hs
    unfold BX6_isSign_0
    simp only [i_const, i_lconst, i_iload, i_aload, i_lload, i_istore, i_astore, i_lstore, i_iinc, i_bin, i_div, i_un, i_i2l, i_l2i, i_lbin, i_lcmp, i_if, i_icmp, i_dup, i_dup_x1, i_dup2, i_pop, i_geti, i_getr, i_getd, i_puti, i_putz, i_putd, i_iald, i_bald, i_aald, i_iast, i_bast, i_alen, i_keep, i_ret, i_retz, i_reta, i_retl, i_retv, i_callv, i_callk, i_calls, i_mm, i_copy, i_under, i_undld, i_ldcs, i_sw, q_swc0, q_swc1, q_lg0, q_lg1, q_lent0, q_lent1, lset, lset2, q_lins0, q_lins1, q_ldel0, q_ldel1, q_ldel20, q_ldel21, q_lkeep0, q_lkeep1, q_memb0, q_memb1, cat2, Nat.reduceBEq, decide_true, decide_false, decide_eq_true_eq, cond_true, cond_false, Bool.and_true, Bool.and_false, Bool.true_and, Bool.false_and, f_iadd, f_isub, f_imul, f_ishl, f_ishr, f_iushr, f_iand, f_ior, f_idiv, f_irem, f_ineg, f_i2b, f_i2s, f_ladd, f_lmul, c_eq, c_ne, c_lt, c_ge, c_gt, c_le, cc_eq, cc_ne, cc_lt, cc_ge, cc_gt, cc_le, rfo, aof, csum, Value.category, List.take, List.drop, List.reverse, List.reverseAux, List.map, List.sum_cons, List.sum_nil, List.cons_append, List.nil_append, Option.toList, List.mem_cons, List.not_mem_nil, List.length_cons, List.length_nil, reduceIte, Nat.reduceEqDiff, Nat.reduceAdd, Nat.reduceLeDiff, Nat.reduceLT, a_day, Nat.zero_ne_one, Nat.one_ne_zero, false_and, and_false, true_and, and_true, or_false, false_or, or_true, true_or, not_true_eq_false, not_false_eq_true, Nat.zero_add, Nat.add_zero, Nat.le_refl, Nat.lt_irrefl, Nat.zero_lt_succ, Nat.zero_le, forall_const, List.cons.injEq, Value.int.injEq, Value.ref.injEq, Value.long.injEq, and_assoc, exists_and_left, exists_eq_left']
    try simp only [forall_eq]
    have t : ∀ y : Int32, sig y = true → x = y → Q (some (.int 1)) M0 := fun y hy e => by subst e; rwa [b2i_t hy] at h
    refine ⟨t 40 (by decide), fun e1 => ⟨t 41 (by decide), fun e2 => ⟨t 42 (by decide), fun e3 => ⟨t 43 (by decide), fun e4 => ⟨t 45 (by decide), fun e5 => ⟨t 59 (by decide), fun e6 => ⟨t 60 (by decide), fun e7 => ⟨t 61 (by decide), fun e8 => ?_⟩⟩⟩⟩⟩⟩⟩⟩
    rwa [b2i_f] at h
    unfold sig
    rw [decide_eq_true_eq]
    intro q
    rcases q with q | q | q | q | q | q | q | q
    · exact e1 q
    · exact e2 q
    · exact e3 q
    · exact e4 q
    · exact e5 q
    · exact e6 q
    · exact e7 q
    · exact e8 q
def T_X6_named (g : WG) (as : List Value) (M : MM) (Q : Option Value → MM → Prop) : Prop := as = [.ref 76] ∧ (∀ w, w < 6 → M 76 21 = cW w → Q (some (.int (nI w))) M) ∧ ((∀ w, w < 6 → ¬ M 76 21 = cW w) → Q (some (.int (-1))) M)
set_option maxRecDepth 100000 in
set_option maxHeartbeats 1000000 in
theorem t_X6_named {l : Launch} {g : WG} (hg : Full g) : Ct l g yX6_named cX6_named 1 ((Option.some FieldType.int)) 1 (T_X6_named g) := by
  refine Ct.of (by decide) (fun as M Q h => ?_) (fun p e s m args below meth c as M Q h C => ?_)
  · obtain ⟨rfl, h1, h2⟩ := h; exact ⟨by simp, by simp [Value.category]⟩
  · obtain ⟨rfl, h1, h2⟩ := h
    refine s_of (fun lv st M0 hs => ?_) (WX6_named_0 C)
    obtain ⟨rfl, rfl, rfl⟩ := hs
    unfold BX6_named_0
    simp only [i_const, i_lconst, i_iload, i_aload, i_lload, i_istore, i_astore, i_lstore, i_iinc, i_bin, i_div, i_un, i_i2l, i_l2i, i_lbin, i_lcmp, i_if, i_icmp, i_dup, i_dup_x1, i_dup2, i_pop, i_geti, i_getr, i_getd, i_puti, i_putz, i_putd, i_iald, i_bald, i_aald, i_iast, i_bast, i_alen, i_keep, i_ret, i_retz, i_reta, i_retl, i_retv, i_callv, i_callk, i_calls, i_mm, i_copy, i_under, i_undld, i_ldcs, i_sw, q_swc0, q_swc1, q_lg0, q_lg1, q_lent0, q_lent1, lset, lset2, q_lins0, q_lins1, q_ldel0, q_ldel1, q_ldel20, q_ldel21, q_lkeep0, q_lkeep1, q_memb0, q_memb1, cat2, Nat.reduceBEq, decide_true, decide_false, decide_eq_true_eq, cond_true, cond_false, Bool.and_true, Bool.and_false, Bool.true_and, Bool.false_and, f_iadd, f_isub, f_imul, f_ishl, f_ishr, f_iushr, f_iand, f_ior, f_idiv, f_irem, f_ineg, f_i2b, f_i2s, f_ladd, f_lmul, c_eq, c_ne, c_lt, c_ge, c_gt, c_le, cc_eq, cc_ne, cc_lt, cc_ge, cc_gt, cc_le, rfo, aof, csum, Value.category, List.take, List.drop, List.reverse, List.reverseAux, List.map, List.sum_cons, List.sum_nil, List.cons_append, List.nil_append, Option.toList, List.mem_cons, List.not_mem_nil, List.length_cons, List.length_nil, reduceIte, Nat.reduceEqDiff, Nat.reduceAdd, Nat.reduceLeDiff, Nat.reduceLT, a_day, Nat.zero_ne_one, Nat.one_ne_zero, false_and, and_false, true_and, and_true, or_false, false_or, or_true, true_or, not_true_eq_false, not_false_eq_true, Nat.zero_add, Nat.add_zero, Nat.le_refl, Nat.lt_irrefl, Nat.zero_lt_succ, Nat.zero_le, forall_const, List.cons.injEq, Value.int.injEq, Value.ref.injEq, Value.long.injEq, and_assoc, exists_and_left, exists_eq_left']
    try simp only [forall_eq]
    refine ⟨m_76 hg, fun e => h1 4 (by decide) e, fun e4 => ⟨fun e => h1 3 (by decide) e, fun e3 => ⟨fun e => h1 1 (by decide) e, fun e1 => ⟨fun e => h1 5 (by decide) e, fun e5 => ⟨fun e => h1 0 (by decide) e, fun e0 => ⟨fun e => h1 2 (by decide) e, fun e2 => h2 fun w hw => ?_⟩⟩⟩⟩⟩⟩
    have : w = 0 ∨ w = 1 ∨ w = 2 ∨ w = 3 ∨ w = 4 ∨ w = 5 := by omega
    rcases this with rfl | rfl | rfl | rfl | rfl | rfl
    · exact e0
    · exact e1
    · exact e2
    · exact e3
    · exact e4
    · exact e5
def T_X6_isKey (g : WG) (as : List Value) (M : MM) (Q : Option Value → MM → Prop) : Prop := as = [.ref 76] ∧ ((∃ w, 6 ≤ w ∧ w < 12 ∧ M 76 21 = cW w) → Q (some (.int 1)) M) ∧ ((∀ w, 6 ≤ w → w < 12 → ¬ M 76 21 = cW w) → Q (some (.int 0)) M)
set_option maxRecDepth 100000 in
set_option maxHeartbeats 1000000 in
theorem t_X6_isKey {l : Launch} {g : WG} (hg : Full g) : Ct l g yX6_isKey cX6_isKey 1 ((Option.some FieldType.boolean)) 1 (T_X6_isKey g) := by
  refine Ct.of (by decide) (fun as M Q h => ?_) (fun p e s m args below meth c as M Q h C => ?_)
  · obtain ⟨rfl, h1, h2⟩ := h; exact ⟨by simp, by simp [Value.category]⟩
  · obtain ⟨rfl, h1, h2⟩ := h
    refine s_of (fun lv st M0 hs => ?_) (WX6_isKey_0 C)
    obtain ⟨rfl, rfl, rfl⟩ := hs
    unfold BX6_isKey_0
    simp only [i_const, i_lconst, i_iload, i_aload, i_lload, i_istore, i_astore, i_lstore, i_iinc, i_bin, i_div, i_un, i_i2l, i_l2i, i_lbin, i_lcmp, i_if, i_icmp, i_dup, i_dup_x1, i_dup2, i_pop, i_geti, i_getr, i_getd, i_puti, i_putz, i_putd, i_iald, i_bald, i_aald, i_iast, i_bast, i_alen, i_keep, i_ret, i_retz, i_reta, i_retl, i_retv, i_callv, i_callk, i_calls, i_mm, i_copy, i_under, i_undld, i_ldcs, i_sw, q_swc0, q_swc1, q_lg0, q_lg1, q_lent0, q_lent1, lset, lset2, q_lins0, q_lins1, q_ldel0, q_ldel1, q_ldel20, q_ldel21, q_lkeep0, q_lkeep1, q_memb0, q_memb1, cat2, Nat.reduceBEq, decide_true, decide_false, decide_eq_true_eq, cond_true, cond_false, Bool.and_true, Bool.and_false, Bool.true_and, Bool.false_and, f_iadd, f_isub, f_imul, f_ishl, f_ishr, f_iushr, f_iand, f_ior, f_idiv, f_irem, f_ineg, f_i2b, f_i2s, f_ladd, f_lmul, c_eq, c_ne, c_lt, c_ge, c_gt, c_le, cc_eq, cc_ne, cc_lt, cc_ge, cc_gt, cc_le, rfo, aof, csum, Value.category, List.take, List.drop, List.reverse, List.reverseAux, List.map, List.sum_cons, List.sum_nil, List.cons_append, List.nil_append, Option.toList, List.mem_cons, List.not_mem_nil, List.length_cons, List.length_nil, reduceIte, Nat.reduceEqDiff, Nat.reduceAdd, Nat.reduceLeDiff, Nat.reduceLT, a_day, Nat.zero_ne_one, Nat.one_ne_zero, false_and, and_false, true_and, and_true, or_false, false_or, or_true, true_or, not_true_eq_false, not_false_eq_true, Nat.zero_add, Nat.add_zero, Nat.le_refl, Nat.lt_irrefl, Nat.zero_lt_succ, Nat.zero_le, forall_const, List.cons.injEq, Value.int.injEq, Value.ref.injEq, Value.long.injEq, and_assoc, exists_and_left, exists_eq_left']
    try simp only [forall_eq]
    refine ⟨m_76 hg, fun e => h1 ⟨9, by decide, by decide, e⟩, fun e3 => ⟨fun e => h1 ⟨10, by decide, by decide, e⟩, fun e4 => ⟨fun e => h1 ⟨11, by decide, by decide, e⟩, fun e5 => ⟨fun e => h1 ⟨6, by decide, by decide, e⟩, fun e0 => ⟨fun e => h1 ⟨7, by decide, by decide, e⟩, fun e1 => ⟨fun e => h1 ⟨8, by decide, by decide, e⟩, fun e2 => h2 fun w hw hw2 => ?_⟩⟩⟩⟩⟩⟩
    have : w = 6 ∨ w = 7 ∨ w = 8 ∨ w = 9 ∨ w = 10 ∨ w = 11 := by omega
    rcases this with rfl | rfl | rfl | rfl | rfl | rfl
    · exact e0
    · exact e1
    · exact e2
    · exact e3
    · exact e4
    · exact e5
def YN (a b : Nat) : Prop := a = 76 ∧ 17 ≤ b ∧ b ≤ 21
theorem vlN_snoc (B : Nat → Int32) : ∀ k p a, vlN B (k + 1) p a = 10 * vlN B k p a + B (p + k) - 48
  | 0, p, a => rfl
  | k + 1, p, a => by
    rw [vlN, vlN_snoc B k (p + 1), vlN, show p + 1 + k = p + (k + 1) by omega]
/-- where a token's end is -/
def nxE (B : Nat → Int32) (n q : Nat) : Nat := if q < n then tkE B n q else n
def T_X6_next (g : WG) (as : List Value) (M : MM) (Q : Option Value → MM → Prop) : Prop := ∃ p n, as = [.ref 76] ∧ M 76 18 = nI p ∧ p ≤ n ∧ n ≤ 160 ∧ M 76 10 = nI n ∧ ∀ M', Sm YN M M' → M' 76 17 = nI (skp (M 84) n p) → M' 76 18 = nI (nxE (M 84) n (skp (M 84) n p)) → (skp (M 84) n p < n → TKm M' (tkS (M 84) n (skp (M 84) n p)) (tkV (M 84) n (skp (M 84) n p))) → (n ≤ skp (M 84) n p → TKm M' 0 0) → Q none M'
set_option maxRecDepth 100000 in
set_option maxHeartbeats 4000000 in
theorem t_X6_next {l : Launch} {g : WG} (hg : Full g) : Ct l g yX6_next cX6_next 2 ((Option.none : Option FieldType)) 2 (T_X6_next g) := by
  refine Ct.of (by decide) (fun as M Q h => ?_) (fun p e s m args below meth c as M Q h C => ?_)
  · obtain ⟨p', nn, rfl, h18, hp, hnn, h10, h⟩ := h; exact ⟨by simp, by simp [Value.category]⟩
  · obtain ⟨p', nn, rfl, h18, hp, hnn, h10, h⟩ := h
    obtain ⟨B, hB⟩ : ∃ B, M 84 = B := ⟨_, rfl⟩
    rw [hB] at h
    obtain ⟨I8, hI8⟩ : ∃ I : Nat → PP, I = (fun n lv st M' => ∃ q, lv = [(0, .ref 76)] ∧ st = [] ∧ q ≤ nn ∧ n = nn - q ∧ Sm YN M M' ∧ M' 76 17 = nI q ∧ skp B nn q = skp B nn p') := ⟨_, rfl⟩
    obtain ⟨E8, hE8⟩ : ∃ E : PP, E = (fun lv st M => ∃ n, I8 n lv st M) := ⟨_, rfl⟩
    have iE8 : ∀ n lv st M, I8 n lv st M → E8 lv st M := fun n lv st M h => by rw [hE8]; exact ⟨n, h⟩
    obtain ⟨I108, hI108⟩ : ∃ I : Nat → PP, I = (fun n lv st M' => ∃ q e, lv = [(0, .ref 76)] ∧ st = [] ∧ q < nn ∧ q ≤ e ∧ e ≤ nn ∧ n = nn - e ∧ Sm YN M M' ∧ M' 76 17 = nI q ∧ M' 76 18 = nI e ∧ M' 76 21 = nI (hN B q (min 6 (e - q))) ∧ q = skp B nn p' ∧ ltr (B q) = true ∧ rnE ltr B (nn - e) e = rnE ltr B (nn - q) q ∧ (∀ t, t < e - q → ltr (B (q + t)) = true)) := ⟨_, rfl⟩
    obtain ⟨E108, hE108⟩ : ∃ E : PP, E = (fun lv st M => ∃ n, I108 n lv st M) := ⟨_, rfl⟩
    have iE108 : ∀ n lv st M, I108 n lv st M → E108 lv st M := fun n lv st M h => by rw [hE108]; exact ⟨n, h⟩
    obtain ⟨I245, hI245⟩ : ∃ I : Nat → PP, I = (fun n lv st M' => ∃ q e, lv = [(0, .ref 76)] ∧ st = [] ∧ q < nn ∧ q ≤ e ∧ e ≤ nn ∧ n = nn - e ∧ Sm YN M M' ∧ M' 76 17 = nI q ∧ M' 76 18 = nI e ∧ M' 76 20 = vlN B (min 4 (e - q)) q 0 ∧ q = skp B nn p' ∧ ¬ ltr (B q) = true ∧ dig (B q) = true ∧ rnE dig B (nn - e) e = rnE dig B (nn - q) q) := ⟨_, rfl⟩
    obtain ⟨E245, hE245⟩ : ∃ E : PP, E = (fun lv st M => ∃ n, I245 n lv st M) := ⟨_, rfl⟩
    have iE245 : ∀ n lv st M, I245 n lv st M → E245 lv st M := fun n lv st M h => by rw [hE245]; exact ⟨n, h⟩
    have L245 : Sj p l e 2 s m args below meth c 2 g (MQ below (cQc g Q) args s 0 0 (gA g)) 245 E245 := by
      rw [hE245]
      refine s_ex (s_loop I245 (fun K245 k245 => WX6_next_245 C (t_X6_isLetter hg) (by decide) (t_X6_isDigit hg) (by decide) (t_X6_named hg) (by decide) (t_X6_isKey hg) (by decide) (t_X6_isSign hg) (by decide) s_F s_F k245) ?_)
      intro n lv st M1 K245 hK245 hI; rw [hI245] at hI; obtain ⟨q, e, rfl, rfl, hq, hqe, hen, rfl, hs, h17, e18, h20, hqs, hl, hd, hrn⟩ := hI
      unfold BX6_next_245
      generalize hB268 : BX6_next_268 g Q (T_X6_isLetter g) (T_X6_isDigit g) (T_X6_named g) (T_X6_isKey g) (T_X6_isSign g) (fun _ _ _ => False) (fun _ _ _ => False) K245 = B268
      generalize hB321 : BX6_next_321 g Q (T_X6_isLetter g) (T_X6_isDigit g) (T_X6_named g) (T_X6_isKey g) (T_X6_isSign g) (fun _ _ _ => False) (fun _ _ _ => False) K245 = B321
      simp only [T_X6_isLetter, T_X6_isDigit, T_X6_named, T_X6_isKey, T_X6_isSign, i_const, i_lconst, i_iload, i_aload, i_lload, i_istore, i_astore, i_lstore, i_iinc, i_bin, i_div, i_un, i_i2l, i_l2i, i_lbin, i_lcmp, i_if, i_icmp, i_dup, i_dup_x1, i_dup2, i_pop, i_geti, i_getr, i_getd, i_puti, i_putz, i_putd, i_iald, i_bald, i_aald, i_iast, i_bast, i_alen, i_keep, i_ret, i_retz, i_reta, i_retl, i_retv, i_callv, i_callk, i_calls, i_mm, i_copy, i_under, i_undld, i_ldcs, i_sw, q_swc0, q_swc1, q_lg0, q_lg1, q_lent0, q_lent1, lset, lset2, q_lins0, q_lins1, q_ldel0, q_ldel1, q_ldel20, q_ldel21, q_lkeep0, q_lkeep1, q_memb0, q_memb1, cat2, Nat.reduceBEq, decide_true, decide_false, decide_eq_true_eq, cond_true, cond_false, Bool.and_true, Bool.and_false, Bool.true_and, Bool.false_and, f_iadd, f_isub, f_imul, f_ishl, f_ishr, f_iushr, f_iand, f_ior, f_idiv, f_irem, f_ineg, f_i2b, f_i2s, f_ladd, f_lmul, c_eq, c_ne, c_lt, c_ge, c_gt, c_le, cc_eq, cc_ne, cc_lt, cc_ge, cc_gt, cc_le, rfo, aof, csum, Value.category, List.take, List.drop, List.reverse, List.reverseAux, List.map, List.sum_cons, List.sum_nil, List.cons_append, List.nil_append, Option.toList, List.mem_cons, List.not_mem_nil, List.length_cons, List.length_nil, reduceIte, Nat.reduceEqDiff, Nat.reduceAdd, Nat.reduceLeDiff, Nat.reduceLT, a_day, Nat.zero_ne_one, Nat.one_ne_zero, false_and, and_false, true_and, and_true, or_false, false_or, or_true, true_or, not_true_eq_false, not_false_eq_true, Nat.zero_add, Nat.add_zero, Nat.le_refl, Nat.lt_irrefl, Nat.zero_lt_succ, Nat.zero_le, forall_const, List.cons.injEq, Value.int.injEq, Value.ref.injEq, Value.long.injEq, and_assoc, exists_and_left, exists_eq_left']
      try simp only [forall_eq]
      have e10 : M1 76 10 = nI nn := by rw [hs 76 10 (by unfold YN; omega)]; exact h10
      have e84 : M1 84 = B := by rw [← hB]; exact funext fun j => hs _ _ (by unfold YN; omega)
      have go321 : e = rnE dig B (nn - q) q → BX6_next_321 g Q (T_X6_isLetter g) (T_X6_isDigit g) (T_X6_named g) (T_X6_isKey g) (T_X6_isSign g) (fun _ _ _ => False) (fun _ _ _ => False) K245 [(0, .ref 76)] [] M1 := by
        intro he
        have ee : e = tkE B nn q := by unfold tkE; rw [if_neg hl, if_pos hd]; exact he
        have fin : ∀ M3, Sm YN M M3 → M3 76 17 = nI q → M3 76 18 = nI e → TKm M3 (tkS B nn q) (tkV B nn q) → Q none M3 := fun M3 a b c k => h M3 a (by rw [← hqs]; exact b) (by rw [c, ee, ← hqs]; unfold nxE; rw [if_pos hq]) (fun _ => by rw [← hqs]; exact k) (fun w => by omega)
        unfold BX6_next_321
        simp only [i_const, i_lconst, i_iload, i_aload, i_lload, i_istore, i_astore, i_lstore, i_iinc, i_bin, i_div, i_un, i_i2l, i_l2i, i_lbin, i_lcmp, i_if, i_icmp, i_dup, i_dup_x1, i_dup2, i_pop, i_geti, i_getr, i_getd, i_puti, i_putz, i_putd, i_iald, i_bald, i_aald, i_iast, i_bast, i_alen, i_keep, i_ret, i_retz, i_reta, i_retl, i_retv, i_callv, i_callk, i_calls, i_mm, i_copy, i_under, i_undld, i_ldcs, i_sw, q_swc0, q_swc1, q_lg0, q_lg1, q_lent0, q_lent1, lset, lset2, q_lins0, q_lins1, q_ldel0, q_ldel1, q_ldel20, q_ldel21, q_lkeep0, q_lkeep1, q_memb0, q_memb1, cat2, Nat.reduceBEq, decide_true, decide_false, decide_eq_true_eq, cond_true, cond_false, Bool.and_true, Bool.and_false, Bool.true_and, Bool.false_and, f_iadd, f_isub, f_imul, f_ishl, f_ishr, f_iushr, f_iand, f_ior, f_idiv, f_irem, f_ineg, f_i2b, f_i2s, f_ladd, f_lmul, c_eq, c_ne, c_lt, c_ge, c_gt, c_le, cc_eq, cc_ne, cc_lt, cc_ge, cc_gt, cc_le, rfo, aof, csum, Value.category, List.take, List.drop, List.reverse, List.reverseAux, List.map, List.sum_cons, List.sum_nil, List.cons_append, List.nil_append, Option.toList, List.mem_cons, List.not_mem_nil, List.length_cons, List.length_nil, reduceIte, Nat.reduceEqDiff, Nat.reduceAdd, Nat.reduceLeDiff, Nat.reduceLT, a_day, Nat.zero_ne_one, Nat.one_ne_zero, false_and, and_false, true_and, and_true, or_false, false_or, or_true, true_or, not_true_eq_false, not_false_eq_true, Nat.zero_add, Nat.add_zero, Nat.le_refl, Nat.lt_irrefl, Nat.zero_lt_succ, Nat.zero_le, forall_const, List.cons.injEq, Value.int.injEq, Value.ref.injEq, Value.long.injEq, and_assoc, exists_and_left, exists_eq_left', forall_eq]
        rw [e18, h17, pk_sub hqe, show (4 : Int32) = nI 4 from rfl, nI_leI (by omega) (by decide)]
        refine ⟨m_76 hg, m_76 hg, fun z => ⟨m_76 hg, fin _ (hs.set _ ⟨rfl, by decide, by decide⟩) (by rw [ms_j (by decide)]; exact h17) (by rw [ms_j (by decide)]; exact e18) (Or.inr (Or.inr (Or.inl ⟨?_, ms_s _ _ _ _, ?_⟩)))⟩, fun z => ⟨m_76 hg, fin _ (hs.set _ ⟨rfl, by decide, by decide⟩) (by rw [ms_j (by decide)]; exact h17) (by rw [ms_j (by decide)]; exact e18) (Or.inr (Or.inl ⟨?_, ms_s _ _ _ _⟩))⟩⟩
        · unfold tkS; rw [if_neg hl, if_pos hd, ← ee, if_neg (by omega)]
        · rw [ms_j (by decide), h20]
          unfold tkV; rw [if_neg hl, if_pos hd, ← ee]
          congr 1
          omega
        · unfold tkS; rw [if_neg hl, if_pos hd, ← ee, if_pos (by omega)]
      rw [e10, e18, nI_leI (by omega) (by omega), nI_clamp (by omega), e84]
      refine ⟨m_76 hg, m_76 hg, fun z => ?_, fun z => ⟨m_76 hg, m_76 hg, m_84 hg, vm l_84 (by omega) (by decide), ?_⟩⟩
      · subst hB321; exact go321 (by rw [← hrn]; exact (rnE_stop (Or.inl z)).symm)
      · subst hB268
        unfold BX6_next_268
        generalize hB308 : BX6_next_308 g Q (T_X6_isLetter g) (T_X6_isDigit g) (T_X6_named g) (T_X6_isKey g) (T_X6_isSign g) (fun _ _ _ => False) (fun _ _ _ => False) K245 = B308
        generalize hB321 : BX6_next_321 g Q (T_X6_isLetter g) (T_X6_isDigit g) (T_X6_named g) (T_X6_isKey g) (T_X6_isSign g) (fun _ _ _ => False) (fun _ _ _ => False) K245 = B321
        simp only [T_X6_isLetter, T_X6_isDigit, T_X6_named, T_X6_isKey, T_X6_isSign, i_const, i_lconst, i_iload, i_aload, i_lload, i_istore, i_astore, i_lstore, i_iinc, i_bin, i_div, i_un, i_i2l, i_l2i, i_lbin, i_lcmp, i_if, i_icmp, i_dup, i_dup_x1, i_dup2, i_pop, i_geti, i_getr, i_getd, i_puti, i_putz, i_putd, i_iald, i_bald, i_aald, i_iast, i_bast, i_alen, i_keep, i_ret, i_retz, i_reta, i_retl, i_retv, i_callv, i_callk, i_calls, i_mm, i_copy, i_under, i_undld, i_ldcs, i_sw, q_swc0, q_swc1, q_lg0, q_lg1, q_lent0, q_lent1, lset, lset2, q_lins0, q_lins1, q_ldel0, q_ldel1, q_ldel20, q_ldel21, q_lkeep0, q_lkeep1, q_memb0, q_memb1, cat2, Nat.reduceBEq, decide_true, decide_false, decide_eq_true_eq, cond_true, cond_false, Bool.and_true, Bool.and_false, Bool.true_and, Bool.false_and, f_iadd, f_isub, f_imul, f_ishl, f_ishr, f_iushr, f_iand, f_ior, f_idiv, f_irem, f_ineg, f_i2b, f_i2s, f_ladd, f_lmul, c_eq, c_ne, c_lt, c_ge, c_gt, c_le, cc_eq, cc_ne, cc_lt, cc_ge, cc_gt, cc_le, rfo, aof, csum, Value.category, List.take, List.drop, List.reverse, List.reverseAux, List.map, List.sum_cons, List.sum_nil, List.cons_append, List.nil_append, Option.toList, List.mem_cons, List.not_mem_nil, List.length_cons, List.length_nil, reduceIte, Nat.reduceEqDiff, Nat.reduceAdd, Nat.reduceLeDiff, Nat.reduceLT, a_day, Nat.zero_ne_one, Nat.one_ne_zero, false_and, and_false, true_and, and_true, or_false, false_or, or_true, true_or, not_true_eq_false, not_false_eq_true, Nat.zero_add, Nat.add_zero, Nat.le_refl, Nat.lt_irrefl, Nat.zero_lt_succ, Nat.zero_le, forall_const, List.cons.injEq, Value.int.injEq, Value.ref.injEq, Value.long.injEq, and_assoc, exists_and_left, exists_eq_left']
        try simp only [forall_eq]
        have nxt : ∀ M2, Sm YN M M2 → M2 76 17 = nI q → M2 76 18 = nI e → M2 76 20 = vlN B (min 4 (e + 1 - q)) q 0 → e < nn → dig (B e) = true → BX6_next_308 g Q (T_X6_isLetter g) (T_X6_isDigit g) (T_X6_named g) (T_X6_isKey g) (T_X6_isSign g) (fun _ _ _ => False) (fun _ _ _ => False) K245 [(0, .ref 76)] [] M2 := by
          intro M2 hs2 f17 f18 f20 hen' hle
          unfold BX6_next_308
          simp only [i_const, i_lconst, i_iload, i_aload, i_lload, i_istore, i_astore, i_lstore, i_iinc, i_bin, i_div, i_un, i_i2l, i_l2i, i_lbin, i_lcmp, i_if, i_icmp, i_dup, i_dup_x1, i_dup2, i_pop, i_geti, i_getr, i_getd, i_puti, i_putz, i_putd, i_iald, i_bald, i_aald, i_iast, i_bast, i_alen, i_keep, i_ret, i_retz, i_reta, i_retl, i_retv, i_callv, i_callk, i_calls, i_mm, i_copy, i_under, i_undld, i_ldcs, i_sw, q_swc0, q_swc1, q_lg0, q_lg1, q_lent0, q_lent1, lset, lset2, q_lins0, q_lins1, q_ldel0, q_ldel1, q_ldel20, q_ldel21, q_lkeep0, q_lkeep1, q_memb0, q_memb1, cat2, Nat.reduceBEq, decide_true, decide_false, decide_eq_true_eq, cond_true, cond_false, Bool.and_true, Bool.and_false, Bool.true_and, Bool.false_and, f_iadd, f_isub, f_imul, f_ishl, f_ishr, f_iushr, f_iand, f_ior, f_idiv, f_irem, f_ineg, f_i2b, f_i2s, f_ladd, f_lmul, c_eq, c_ne, c_lt, c_ge, c_gt, c_le, cc_eq, cc_ne, cc_lt, cc_ge, cc_gt, cc_le, rfo, aof, csum, Value.category, List.take, List.drop, List.reverse, List.reverseAux, List.map, List.sum_cons, List.sum_nil, List.cons_append, List.nil_append, Option.toList, List.mem_cons, List.not_mem_nil, List.length_cons, List.length_nil, reduceIte, Nat.reduceEqDiff, Nat.reduceAdd, Nat.reduceLeDiff, Nat.reduceLT, a_day, Nat.zero_ne_one, Nat.one_ne_zero, false_and, and_false, true_and, and_true, or_false, false_or, or_true, true_or, not_true_eq_false, not_false_eq_true, Nat.zero_add, Nat.add_zero, Nat.le_refl, Nat.lt_irrefl, Nat.zero_lt_succ, Nat.zero_le, forall_const, List.cons.injEq, Value.int.injEq, Value.ref.injEq, Value.long.injEq, and_assoc, exists_and_left, exists_eq_left', forall_eq]
          rw [f18, nI_1]
          refine ⟨m_76 hg, m_76 hg, hK245 (nn - (e + 1)) _ _ _ (by omega) ?_⟩
          rw [hI245]
          exact ⟨q, e + 1, rfl, rfl, hq, by omega, by omega, rfl, hs2.set _ ⟨rfl, by decide, by decide⟩, by rw [ms_j (by decide)]; exact f17, ms_s _ _ _ _, by rw [ms_j (by decide)]; exact f20, hqs, hl, hd, by rw [← hrn]; exact (rnE_step hen' hle).symm⟩
        refine ⟨fun y => ?_, fun y => ⟨m_76 hg, m_76 hg, ?_⟩⟩
        · subst hB321; exact go321 (by rw [← hrn]; exact (rnE_stop (Or.inr (b2n y))).symm)
        · have y := b2t y
          rw [e18, h17, pk_sub hqe, show (4 : Int32) = nI 4 from rfl, nI_leI (by decide) (by omega), nI_clamp (by omega), e84, h20]
          refine ⟨fun z => ?_, fun z => ⟨m_76 hg, m_76 hg, m_76 hg, m_84 hg, vm l_84 (by omega) (by decide), m_76 hg, ?_⟩⟩
          · subst hB308
            refine nxt M1 hs h17 e18 ?_ (by omega) y
            rw [h20, Nat.min_eq_left z, Nat.min_eq_left (by omega)]
          · subst hB308
            refine nxt _ (hs.set _ ⟨rfl, by decide, by decide⟩) (by rw [ms_j (by decide)]; exact h17) (by rw [ms_j (by decide)]; exact e18) ?_ (by omega) y
            rw [ms_s, Nat.min_eq_right (by omega), Nat.min_eq_right (by omega), show e + 1 - q = (e - q) + 1 by omega, vlN_snoc, show q + (e - q) = e by omega]
      
    have L108 : Sj p l e 2 s m args below meth c 2 g (MQ below (cQc g Q) args s 0 0 (gA g)) 108 E108 := by
      rw [hE108]
      refine s_ex (s_loop I108 (fun K108 k108 => WX6_next_108 C (t_X6_isLetter hg) (by decide) (t_X6_isDigit hg) (by decide) (t_X6_named hg) (by decide) (t_X6_isKey hg) (by decide) (t_X6_isSign hg) (by decide) s_F k108 L245) ?_)
      intro n lv st M1 K108 hK108 hI; rw [hI108] at hI; obtain ⟨q, e, rfl, rfl, hq, hqe, hen, rfl, hs, h17, e18, h21, hqs, hl, hrn, hall⟩ := hI
      unfold BX6_next_108
      generalize hB131 : BX6_next_131 g Q (T_X6_isLetter g) (T_X6_isDigit g) (T_X6_named g) (T_X6_isKey g) (T_X6_isSign g) (fun _ _ _ => False) K108 E245 = B131
      generalize hB185 : BX6_next_185 g Q (T_X6_isLetter g) (T_X6_isDigit g) (T_X6_named g) (T_X6_isKey g) (T_X6_isSign g) (fun _ _ _ => False) K108 E245 = B185
      simp only [T_X6_isLetter, T_X6_isDigit, T_X6_named, T_X6_isKey, T_X6_isSign, i_const, i_lconst, i_iload, i_aload, i_lload, i_istore, i_astore, i_lstore, i_iinc, i_bin, i_div, i_un, i_i2l, i_l2i, i_lbin, i_lcmp, i_if, i_icmp, i_dup, i_dup_x1, i_dup2, i_pop, i_geti, i_getr, i_getd, i_puti, i_putz, i_putd, i_iald, i_bald, i_aald, i_iast, i_bast, i_alen, i_keep, i_ret, i_retz, i_reta, i_retl, i_retv, i_callv, i_callk, i_calls, i_mm, i_copy, i_under, i_undld, i_ldcs, i_sw, q_swc0, q_swc1, q_lg0, q_lg1, q_lent0, q_lent1, lset, lset2, q_lins0, q_lins1, q_ldel0, q_ldel1, q_ldel20, q_ldel21, q_lkeep0, q_lkeep1, q_memb0, q_memb1, cat2, Nat.reduceBEq, decide_true, decide_false, decide_eq_true_eq, cond_true, cond_false, Bool.and_true, Bool.and_false, Bool.true_and, Bool.false_and, f_iadd, f_isub, f_imul, f_ishl, f_ishr, f_iushr, f_iand, f_ior, f_idiv, f_irem, f_ineg, f_i2b, f_i2s, f_ladd, f_lmul, c_eq, c_ne, c_lt, c_ge, c_gt, c_le, cc_eq, cc_ne, cc_lt, cc_ge, cc_gt, cc_le, rfo, aof, csum, Value.category, List.take, List.drop, List.reverse, List.reverseAux, List.map, List.sum_cons, List.sum_nil, List.cons_append, List.nil_append, Option.toList, List.mem_cons, List.not_mem_nil, List.length_cons, List.length_nil, reduceIte, Nat.reduceEqDiff, Nat.reduceAdd, Nat.reduceLeDiff, Nat.reduceLT, a_day, Nat.zero_ne_one, Nat.one_ne_zero, false_and, and_false, true_and, and_true, or_false, false_or, or_true, true_or, not_true_eq_false, not_false_eq_true, Nat.zero_add, Nat.add_zero, Nat.le_refl, Nat.lt_irrefl, Nat.zero_lt_succ, Nat.zero_le, forall_const, List.cons.injEq, Value.int.injEq, Value.ref.injEq, Value.long.injEq, and_assoc, exists_and_left, exists_eq_left']
      try simp only [forall_eq]
      have e10 : M1 76 10 = nI nn := by rw [hs 76 10 (by unfold YN; omega)]; exact h10
      have e84 : M1 84 = B := by rw [← hB]; exact funext fun j => hs _ _ (by unfold YN; omega)
      have go185 : e = rnE ltr B (nn - q) q → BX6_next_185 g Q (T_X6_isLetter g) (T_X6_isDigit g) (T_X6_named g) (T_X6_isKey g) (T_X6_isSign g) (fun _ _ _ => False) K108 E245 [(0, .ref 76)] [] M1 := by
        intro he
        have ee : e = tkE B nn q := by unfold tkE; rw [if_pos hl]; exact he
        have fin : ∀ M3, Sm YN M M3 → M3 76 17 = nI q → M3 76 18 = nI e → TKm M3 (tkS B nn q) (tkV B nn q) → Q none M3 := fun M3 a b c k => h M3 a (by rw [← hqs]; exact b) (by rw [c, ee, ← hqs]; unfold nxE; rw [if_pos hq]) (fun _ => by rw [← hqs]; exact k) (fun w => by omega)
        have go204 : ∀ M2, Sm YN M M2 → M2 76 17 = nI q → M2 76 18 = nI e → M2 76 21 = wdN B q (e - q) → BX6_next_204 g Q (T_X6_isLetter g) (T_X6_isDigit g) (T_X6_named g) (T_X6_isKey g) (T_X6_isSign g) (fun _ _ _ => False) K108 E245 [(0, .ref 76)] [] M2 := by
          intro M2 hs2 f17 f18 f21
          unfold BX6_next_204
          simp only [T_X6_named, i_const, i_lconst, i_iload, i_aload, i_lload, i_istore, i_astore, i_lstore, i_iinc, i_bin, i_div, i_un, i_i2l, i_l2i, i_lbin, i_lcmp, i_if, i_icmp, i_dup, i_dup_x1, i_dup2, i_pop, i_geti, i_getr, i_getd, i_puti, i_putz, i_putd, i_iald, i_bald, i_aald, i_iast, i_bast, i_alen, i_keep, i_ret, i_retz, i_reta, i_retl, i_retv, i_callv, i_callk, i_calls, i_mm, i_copy, i_under, i_undld, i_ldcs, i_sw, q_swc0, q_swc1, q_lg0, q_lg1, q_lent0, q_lent1, lset, lset2, q_lins0, q_lins1, q_ldel0, q_ldel1, q_ldel20, q_ldel21, q_lkeep0, q_lkeep1, q_memb0, q_memb1, cat2, Nat.reduceBEq, decide_true, decide_false, decide_eq_true_eq, cond_true, cond_false, Bool.and_true, Bool.and_false, Bool.true_and, Bool.false_and, f_iadd, f_isub, f_imul, f_ishl, f_ishr, f_iushr, f_iand, f_ior, f_idiv, f_irem, f_ineg, f_i2b, f_i2s, f_ladd, f_lmul, c_eq, c_ne, c_lt, c_ge, c_gt, c_le, cc_eq, cc_ne, cc_lt, cc_ge, cc_gt, cc_le, rfo, aof, csum, Value.category, List.take, List.drop, List.reverse, List.reverseAux, List.map, List.sum_cons, List.sum_nil, List.cons_append, List.nil_append, Option.toList, List.mem_cons, List.not_mem_nil, List.length_cons, List.length_nil, reduceIte, Nat.reduceEqDiff, Nat.reduceAdd, Nat.reduceLeDiff, Nat.reduceLT, a_day, Nat.zero_ne_one, Nat.one_ne_zero, false_and, and_false, true_and, and_true, or_false, false_or, or_true, true_or, not_true_eq_false, not_false_eq_true, Nat.zero_add, Nat.add_zero, Nat.le_refl, Nat.lt_irrefl, Nat.zero_lt_succ, Nat.zero_le, forall_const, List.cons.injEq, Value.int.injEq, Value.ref.injEq, Value.long.injEq, and_assoc, exists_and_left, exists_eq_left', forall_eq]
          have wv : ∀ w, w < 12 → M2 76 21 = cW w → wix B q e = w := by
            intro w hw hc
            rw [f21] at hc
            rcases Nat.lt_or_ge (wix B q e) 12 with hx | hx
            · exact cW_inj _ hx _ hw ((wix_hit hx hall).symm.trans hc)
            · exact absurd hc (wix_miss hx hall hw)
          have tok : ∀ M3, M3 76 19 = 119 → M3 76 21 = M2 76 21 → wix B q e < 12 → TKm M3 (tkS B nn q) (tkV B nn q) := by
            intro M3 h19 h21' hx
            refine Or.inr (Or.inr (Or.inr (Or.inl ⟨wix B q e, hx, h19, by rw [h21', f21]; exact wix_hit hx hall, ?_, fun h6 => ?_⟩)))
            · unfold tkS
              rw [if_pos hl, ← ee]
              split
              · rfl
              · rfl
            · unfold tkV
              rw [if_pos hl, ← ee, if_pos h6]
          have put : ∀ x : Int32, Sm YN M (mset M2 76 19 x) ∧ mset M2 76 19 x 76 17 = nI q ∧ mset M2 76 19 x 76 18 = nI e ∧ mset M2 76 19 x 76 21 = M2 76 21 := fun x => ⟨hs2.set _ ⟨rfl, by decide, by decide⟩, by rw [ms_j (by decide)]; exact f17, by rw [ms_j (by decide)]; exact f18, by rw [ms_j (by decide)]⟩
          refine ⟨(m_76 hg).1, (m_76 hg).2.1, fun w hw hc => ?_, fun hn => ?_⟩
          · unfold BX6_next_209
            simp only [T_X6_isKey, i_const, i_lconst, i_iload, i_aload, i_lload, i_istore, i_astore, i_lstore, i_iinc, i_bin, i_div, i_un, i_i2l, i_l2i, i_lbin, i_lcmp, i_if, i_icmp, i_dup, i_dup_x1, i_dup2, i_pop, i_geti, i_getr, i_getd, i_puti, i_putz, i_putd, i_iald, i_bald, i_aald, i_iast, i_bast, i_alen, i_keep, i_ret, i_retz, i_reta, i_retl, i_retv, i_callv, i_callk, i_calls, i_mm, i_copy, i_under, i_undld, i_ldcs, i_sw, q_swc0, q_swc1, q_lg0, q_lg1, q_lent0, q_lent1, lset, lset2, q_lins0, q_lins1, q_ldel0, q_ldel1, q_ldel20, q_ldel21, q_lkeep0, q_lkeep1, q_memb0, q_memb1, cat2, Nat.reduceBEq, decide_true, decide_false, decide_eq_true_eq, cond_true, cond_false, Bool.and_true, Bool.and_false, Bool.true_and, Bool.false_and, f_iadd, f_isub, f_imul, f_ishl, f_ishr, f_iushr, f_iand, f_ior, f_idiv, f_irem, f_ineg, f_i2b, f_i2s, f_ladd, f_lmul, c_eq, c_ne, c_lt, c_ge, c_gt, c_le, cc_eq, cc_ne, cc_lt, cc_ge, cc_gt, cc_le, rfo, aof, csum, Value.category, List.take, List.drop, List.reverse, List.reverseAux, List.map, List.sum_cons, List.sum_nil, List.cons_append, List.nil_append, Option.toList, List.mem_cons, List.not_mem_nil, List.length_cons, List.length_nil, reduceIte, Nat.reduceEqDiff, Nat.reduceAdd, Nat.reduceLeDiff, Nat.reduceLT, a_day, Nat.zero_ne_one, Nat.one_ne_zero, false_and, and_false, true_and, and_true, or_false, false_or, or_true, true_or, not_true_eq_false, not_false_eq_true, Nat.zero_add, Nat.add_zero, Nat.le_refl, Nat.lt_irrefl, Nat.zero_lt_succ, Nat.zero_le, forall_const, List.cons.injEq, Value.int.injEq, Value.ref.injEq, Value.long.injEq, and_assoc, exists_and_left, exists_eq_left', forall_eq]
            obtain ⟨p1, p2, p3, p4⟩ := put 119
            refine ⟨fun _ => ⟨m_76 hg, fin _ p1 p2 p3 (tok _ (ms_s _ _ _ _) p4 (by rw [wv w (by omega) hc]; omega))⟩, fun z => absurd (Decidable.not_not.mp z) ((show ∀ w, w < 6 → ¬ nI w = -1 by decide) w hw)⟩
          · unfold BX6_next_209
            simp only [T_X6_isKey, i_const, i_lconst, i_iload, i_aload, i_lload, i_istore, i_astore, i_lstore, i_iinc, i_bin, i_div, i_un, i_i2l, i_l2i, i_lbin, i_lcmp, i_if, i_icmp, i_dup, i_dup_x1, i_dup2, i_pop, i_geti, i_getr, i_getd, i_puti, i_putz, i_putd, i_iald, i_bald, i_aald, i_iast, i_bast, i_alen, i_keep, i_ret, i_retz, i_reta, i_retl, i_retv, i_callv, i_callk, i_calls, i_mm, i_copy, i_under, i_undld, i_ldcs, i_sw, q_swc0, q_swc1, q_lg0, q_lg1, q_lent0, q_lent1, lset, lset2, q_lins0, q_lins1, q_ldel0, q_ldel1, q_ldel20, q_ldel21, q_lkeep0, q_lkeep1, q_memb0, q_memb1, cat2, Nat.reduceBEq, decide_true, decide_false, decide_eq_true_eq, cond_true, cond_false, Bool.and_true, Bool.and_false, Bool.true_and, Bool.false_and, f_iadd, f_isub, f_imul, f_ishl, f_ishr, f_iushr, f_iand, f_ior, f_idiv, f_irem, f_ineg, f_i2b, f_i2s, f_ladd, f_lmul, c_eq, c_ne, c_lt, c_ge, c_gt, c_le, cc_eq, cc_ne, cc_lt, cc_ge, cc_gt, cc_le, rfo, aof, csum, Value.category, List.take, List.drop, List.reverse, List.reverseAux, List.map, List.sum_cons, List.sum_nil, List.cons_append, List.nil_append, Option.toList, List.mem_cons, List.not_mem_nil, List.length_cons, List.length_nil, reduceIte, Nat.reduceEqDiff, Nat.reduceAdd, Nat.reduceLeDiff, Nat.reduceLT, a_day, Nat.zero_ne_one, Nat.one_ne_zero, false_and, and_false, true_and, and_true, or_false, false_or, or_true, true_or, not_true_eq_false, not_false_eq_true, Nat.zero_add, Nat.add_zero, Nat.le_refl, Nat.lt_irrefl, Nat.zero_lt_succ, Nat.zero_le, forall_const, List.cons.injEq, Value.int.injEq, Value.ref.injEq, Value.long.injEq, and_assoc, exists_and_left, exists_eq_left', forall_eq]
            refine ⟨fun z => z.elim, (m_76 hg).1, (m_76 hg).2.1, ?_, ?_⟩
            · intro hk
              obtain ⟨w, hw6, hw, hc⟩ := hk
              unfold BX6_next_217
              simp only [i_const, i_lconst, i_iload, i_aload, i_lload, i_istore, i_astore, i_lstore, i_iinc, i_bin, i_div, i_un, i_i2l, i_l2i, i_lbin, i_lcmp, i_if, i_icmp, i_dup, i_dup_x1, i_dup2, i_pop, i_geti, i_getr, i_getd, i_puti, i_putz, i_putd, i_iald, i_bald, i_aald, i_iast, i_bast, i_alen, i_keep, i_ret, i_retz, i_reta, i_retl, i_retv, i_callv, i_callk, i_calls, i_mm, i_copy, i_under, i_undld, i_ldcs, i_sw, q_swc0, q_swc1, q_lg0, q_lg1, q_lent0, q_lent1, lset, lset2, q_lins0, q_lins1, q_ldel0, q_ldel1, q_ldel20, q_ldel21, q_lkeep0, q_lkeep1, q_memb0, q_memb1, cat2, Nat.reduceBEq, decide_true, decide_false, decide_eq_true_eq, cond_true, cond_false, Bool.and_true, Bool.and_false, Bool.true_and, Bool.false_and, f_iadd, f_isub, f_imul, f_ishl, f_ishr, f_iushr, f_iand, f_ior, f_idiv, f_irem, f_ineg, f_i2b, f_i2s, f_ladd, f_lmul, c_eq, c_ne, c_lt, c_ge, c_gt, c_le, cc_eq, cc_ne, cc_lt, cc_ge, cc_gt, cc_le, rfo, aof, csum, Value.category, List.take, List.drop, List.reverse, List.reverseAux, List.map, List.sum_cons, List.sum_nil, List.cons_append, List.nil_append, Option.toList, List.mem_cons, List.not_mem_nil, List.length_cons, List.length_nil, reduceIte, Nat.reduceEqDiff, Nat.reduceAdd, Nat.reduceLeDiff, Nat.reduceLT, a_day, Nat.zero_ne_one, Nat.one_ne_zero, false_and, and_false, true_and, and_true, or_false, false_or, or_true, true_or, not_true_eq_false, not_false_eq_true, Nat.zero_add, Nat.add_zero, Nat.le_refl, Nat.lt_irrefl, Nat.zero_lt_succ, Nat.zero_le, forall_const, List.cons.injEq, Value.int.injEq, Value.ref.injEq, Value.long.injEq, and_assoc, exists_and_left, exists_eq_left', forall_eq]
              obtain ⟨p1, p2, p3, p4⟩ := put 119
              exact ⟨fun _ => ⟨m_76 hg, fin _ p1 p2 p3 (tok _ (ms_s _ _ _ _) p4 (by rw [wv w hw hc]; exact hw))⟩, fun z => absurd z (by decide)⟩
            · intro hk
              unfold BX6_next_217
              simp only [i_const, i_lconst, i_iload, i_aload, i_lload, i_istore, i_astore, i_lstore, i_iinc, i_bin, i_div, i_un, i_i2l, i_l2i, i_lbin, i_lcmp, i_if, i_icmp, i_dup, i_dup_x1, i_dup2, i_pop, i_geti, i_getr, i_getd, i_puti, i_putz, i_putd, i_iald, i_bald, i_aald, i_iast, i_bast, i_alen, i_keep, i_ret, i_retz, i_reta, i_retl, i_retv, i_callv, i_callk, i_calls, i_mm, i_copy, i_under, i_undld, i_ldcs, i_sw, q_swc0, q_swc1, q_lg0, q_lg1, q_lent0, q_lent1, lset, lset2, q_lins0, q_lins1, q_ldel0, q_ldel1, q_ldel20, q_ldel21, q_lkeep0, q_lkeep1, q_memb0, q_memb1, cat2, Nat.reduceBEq, decide_true, decide_false, decide_eq_true_eq, cond_true, cond_false, Bool.and_true, Bool.and_false, Bool.true_and, Bool.false_and, f_iadd, f_isub, f_imul, f_ishl, f_ishr, f_iushr, f_iand, f_ior, f_idiv, f_irem, f_ineg, f_i2b, f_i2s, f_ladd, f_lmul, c_eq, c_ne, c_lt, c_ge, c_gt, c_le, cc_eq, cc_ne, cc_lt, cc_ge, cc_gt, cc_le, rfo, aof, csum, Value.category, List.take, List.drop, List.reverse, List.reverseAux, List.map, List.sum_cons, List.sum_nil, List.cons_append, List.nil_append, Option.toList, List.mem_cons, List.not_mem_nil, List.length_cons, List.length_nil, reduceIte, Nat.reduceEqDiff, Nat.reduceAdd, Nat.reduceLeDiff, Nat.reduceLT, a_day, Nat.zero_ne_one, Nat.one_ne_zero, false_and, and_false, true_and, and_true, or_false, false_or, or_true, true_or, not_true_eq_false, not_false_eq_true, Nat.zero_add, Nat.add_zero, Nat.le_refl, Nat.lt_irrefl, Nat.zero_lt_succ, Nat.zero_le, forall_const, List.cons.injEq, Value.int.injEq, Value.ref.injEq, Value.long.injEq, and_assoc, exists_and_left, exists_eq_left', forall_eq]
              obtain ⟨p1, p2, p3, p4⟩ := put 120
              refine ⟨fun z => z.elim, m_76 hg, fin _ p1 p2 p3 (Or.inr (Or.inl ⟨?_, ms_s _ _ _ _⟩))⟩
              have hx : ¬ wix B q e < 12 := by
                intro hx
                have hc : M2 76 21 = cW (wix B q e) := by rw [f21]; exact wix_hit hx hall
                rcases Nat.lt_or_ge (wix B q e) 6 with h6 | h6
                · exact hn _ h6 hc
                · exact hk _ h6 hx hc
              unfold tkS
              rw [if_pos hl, ← ee, if_neg (by omega), if_neg hx]
        unfold BX6_next_185
        simp only [i_const, i_lconst, i_iload, i_aload, i_lload, i_istore, i_astore, i_lstore, i_iinc, i_bin, i_div, i_un, i_i2l, i_l2i, i_lbin, i_lcmp, i_if, i_icmp, i_dup, i_dup_x1, i_dup2, i_pop, i_geti, i_getr, i_getd, i_puti, i_putz, i_putd, i_iald, i_bald, i_aald, i_iast, i_bast, i_alen, i_keep, i_ret, i_retz, i_reta, i_retl, i_retv, i_callv, i_callk, i_calls, i_mm, i_copy, i_under, i_undld, i_ldcs, i_sw, q_swc0, q_swc1, q_lg0, q_lg1, q_lent0, q_lent1, lset, lset2, q_lins0, q_lins1, q_ldel0, q_ldel1, q_ldel20, q_ldel21, q_lkeep0, q_lkeep1, q_memb0, q_memb1, cat2, Nat.reduceBEq, decide_true, decide_false, decide_eq_true_eq, cond_true, cond_false, Bool.and_true, Bool.and_false, Bool.true_and, Bool.false_and, f_iadd, f_isub, f_imul, f_ishl, f_ishr, f_iushr, f_iand, f_ior, f_idiv, f_irem, f_ineg, f_i2b, f_i2s, f_ladd, f_lmul, c_eq, c_ne, c_lt, c_ge, c_gt, c_le, cc_eq, cc_ne, cc_lt, cc_ge, cc_gt, cc_le, rfo, aof, csum, Value.category, List.take, List.drop, List.reverse, List.reverseAux, List.map, List.sum_cons, List.sum_nil, List.cons_append, List.nil_append, Option.toList, List.mem_cons, List.not_mem_nil, List.length_cons, List.length_nil, reduceIte, Nat.reduceEqDiff, Nat.reduceAdd, Nat.reduceLeDiff, Nat.reduceLT, a_day, Nat.zero_ne_one, Nat.one_ne_zero, false_and, and_false, true_and, and_true, or_false, false_or, or_true, true_or, not_true_eq_false, not_false_eq_true, Nat.zero_add, Nat.add_zero, Nat.le_refl, Nat.lt_irrefl, Nat.zero_lt_succ, Nat.zero_le, forall_const, List.cons.injEq, Value.int.injEq, Value.ref.injEq, Value.long.injEq, and_assoc, exists_and_left, exists_eq_left', forall_eq]
        rw [e18, h17, pk_sub hqe, show (6 : Int32) = nI 6 from rfl, nI_leI (by omega) (by decide)]
        refine ⟨m_76 hg, m_76 hg, fun z => go204 M1 hs h17 e18 ?_, fun z => ⟨m_76 hg, go204 _ (hs.set _ ⟨rfl, by decide, by decide⟩) (by rw [ms_j (by decide)]; exact h17) (by rw [ms_j (by decide)]; exact e18) ?_⟩⟩
        · rw [h21, Nat.min_eq_right z]; unfold wdN; rw [if_neg (by omega)]
        · rw [ms_s]; unfold wdN; rw [if_pos (by omega)]
      rw [e10, e18, nI_leI (by omega) (by omega), nI_clamp (by omega), e84]
      refine ⟨m_76 hg, m_76 hg, fun z => ?_, fun z => ⟨m_76 hg, m_76 hg, m_84 hg, vm l_84 (by omega) (by decide), ?_⟩⟩
      · subst hB185; exact go185 (by rw [← hrn]; exact (rnE_stop (Or.inl z)).symm)
      · subst hB131
        unfold BX6_next_131
        generalize hB172 : BX6_next_172 g Q (T_X6_isLetter g) (T_X6_isDigit g) (T_X6_named g) (T_X6_isKey g) (T_X6_isSign g) (fun _ _ _ => False) K108 E245 = B172
        generalize hB185 : BX6_next_185 g Q (T_X6_isLetter g) (T_X6_isDigit g) (T_X6_named g) (T_X6_isKey g) (T_X6_isSign g) (fun _ _ _ => False) K108 E245 = B185
        simp only [T_X6_isLetter, T_X6_isDigit, T_X6_named, T_X6_isKey, T_X6_isSign, i_const, i_lconst, i_iload, i_aload, i_lload, i_istore, i_astore, i_lstore, i_iinc, i_bin, i_div, i_un, i_i2l, i_l2i, i_lbin, i_lcmp, i_if, i_icmp, i_dup, i_dup_x1, i_dup2, i_pop, i_geti, i_getr, i_getd, i_puti, i_putz, i_putd, i_iald, i_bald, i_aald, i_iast, i_bast, i_alen, i_keep, i_ret, i_retz, i_reta, i_retl, i_retv, i_callv, i_callk, i_calls, i_mm, i_copy, i_under, i_undld, i_ldcs, i_sw, q_swc0, q_swc1, q_lg0, q_lg1, q_lent0, q_lent1, lset, lset2, q_lins0, q_lins1, q_ldel0, q_ldel1, q_ldel20, q_ldel21, q_lkeep0, q_lkeep1, q_memb0, q_memb1, cat2, Nat.reduceBEq, decide_true, decide_false, decide_eq_true_eq, cond_true, cond_false, Bool.and_true, Bool.and_false, Bool.true_and, Bool.false_and, f_iadd, f_isub, f_imul, f_ishl, f_ishr, f_iushr, f_iand, f_ior, f_idiv, f_irem, f_ineg, f_i2b, f_i2s, f_ladd, f_lmul, c_eq, c_ne, c_lt, c_ge, c_gt, c_le, cc_eq, cc_ne, cc_lt, cc_ge, cc_gt, cc_le, rfo, aof, csum, Value.category, List.take, List.drop, List.reverse, List.reverseAux, List.map, List.sum_cons, List.sum_nil, List.cons_append, List.nil_append, Option.toList, List.mem_cons, List.not_mem_nil, List.length_cons, List.length_nil, reduceIte, Nat.reduceEqDiff, Nat.reduceAdd, Nat.reduceLeDiff, Nat.reduceLT, a_day, Nat.zero_ne_one, Nat.one_ne_zero, false_and, and_false, true_and, and_true, or_false, false_or, or_true, true_or, not_true_eq_false, not_false_eq_true, Nat.zero_add, Nat.add_zero, Nat.le_refl, Nat.lt_irrefl, Nat.zero_lt_succ, Nat.zero_le, forall_const, List.cons.injEq, Value.int.injEq, Value.ref.injEq, Value.long.injEq, and_assoc, exists_and_left, exists_eq_left']
        try simp only [forall_eq]
        have nxt : ∀ M2, Sm YN M M2 → M2 76 17 = nI q → M2 76 18 = nI e → M2 76 21 = nI (hN B q (min 6 (e + 1 - q))) → e < nn → ltr (B e) = true → BX6_next_172 g Q (T_X6_isLetter g) (T_X6_isDigit g) (T_X6_named g) (T_X6_isKey g) (T_X6_isSign g) (fun _ _ _ => False) K108 E245 [(0, .ref 76)] [] M2 := by
          intro M2 hs2 f17 f18 f21 hen' hle
          unfold BX6_next_172
          simp only [i_const, i_lconst, i_iload, i_aload, i_lload, i_istore, i_astore, i_lstore, i_iinc, i_bin, i_div, i_un, i_i2l, i_l2i, i_lbin, i_lcmp, i_if, i_icmp, i_dup, i_dup_x1, i_dup2, i_pop, i_geti, i_getr, i_getd, i_puti, i_putz, i_putd, i_iald, i_bald, i_aald, i_iast, i_bast, i_alen, i_keep, i_ret, i_retz, i_reta, i_retl, i_retv, i_callv, i_callk, i_calls, i_mm, i_copy, i_under, i_undld, i_ldcs, i_sw, q_swc0, q_swc1, q_lg0, q_lg1, q_lent0, q_lent1, lset, lset2, q_lins0, q_lins1, q_ldel0, q_ldel1, q_ldel20, q_ldel21, q_lkeep0, q_lkeep1, q_memb0, q_memb1, cat2, Nat.reduceBEq, decide_true, decide_false, decide_eq_true_eq, cond_true, cond_false, Bool.and_true, Bool.and_false, Bool.true_and, Bool.false_and, f_iadd, f_isub, f_imul, f_ishl, f_ishr, f_iushr, f_iand, f_ior, f_idiv, f_irem, f_ineg, f_i2b, f_i2s, f_ladd, f_lmul, c_eq, c_ne, c_lt, c_ge, c_gt, c_le, cc_eq, cc_ne, cc_lt, cc_ge, cc_gt, cc_le, rfo, aof, csum, Value.category, List.take, List.drop, List.reverse, List.reverseAux, List.map, List.sum_cons, List.sum_nil, List.cons_append, List.nil_append, Option.toList, List.mem_cons, List.not_mem_nil, List.length_cons, List.length_nil, reduceIte, Nat.reduceEqDiff, Nat.reduceAdd, Nat.reduceLeDiff, Nat.reduceLT, a_day, Nat.zero_ne_one, Nat.one_ne_zero, false_and, and_false, true_and, and_true, or_false, false_or, or_true, true_or, not_true_eq_false, not_false_eq_true, Nat.zero_add, Nat.add_zero, Nat.le_refl, Nat.lt_irrefl, Nat.zero_lt_succ, Nat.zero_le, forall_const, List.cons.injEq, Value.int.injEq, Value.ref.injEq, Value.long.injEq, and_assoc, exists_and_left, exists_eq_left', forall_eq]
          rw [f18, nI_1]
          refine ⟨m_76 hg, m_76 hg, hK108 (nn - (e + 1)) _ _ _ (by omega) ?_⟩
          rw [hI108]
          refine ⟨q, e + 1, rfl, rfl, hq, by omega, by omega, rfl, hs2.set _ ⟨rfl, by decide, by decide⟩, by rw [ms_j (by decide)]; exact f17, ms_s _ _ _ _, by rw [ms_j (by decide)]; exact f21, hqs, hl, by rw [← hrn]; exact (rnE_step hen' hle).symm, fun t ht => ?_⟩
          by_cases c : t = e - q
          · rw [c, show q + (e - q) = e by omega]; exact hle
          · exact hall t (by omega)
        refine ⟨fun y => ?_, fun y => ⟨m_76 hg, m_76 hg, ?_⟩⟩
        · subst hB185; exact go185 (by rw [← hrn]; exact (rnE_stop (Or.inr (b2n y))).symm)
        · have y := b2t y
          rw [e18, h17, pk_sub hqe, show (6 : Int32) = nI 6 from rfl, nI_leI (by decide) (by omega), nI_clamp (by omega), e84, h21]
          refine ⟨fun z => ?_, fun z => ⟨m_76 hg, m_76 hg, m_76 hg, m_84 hg, vm l_84 (by omega) (by decide), m_76 hg, ?_⟩⟩
          · subst hB172
            refine nxt M1 hs h17 e18 ?_ (by omega) y
            rw [h21, Nat.min_eq_left z, Nat.min_eq_left (by omega)]
          · subst hB172
            refine nxt _ (hs.set _ ⟨rfl, by decide, by decide⟩) (by rw [ms_j (by decide)]; exact h17) (by rw [ms_j (by decide)]; exact e18) ?_ (by omega) y
            rw [ms_s, Nat.min_eq_right (by omega), Nat.min_eq_right (by omega), show e + 1 - q = (e - q) + 1 by omega]
            simp only [hN]
            rw [show q + (e - q) = e by omega]
            obtain ⟨b, b1, b2, eb⟩ := ltr_n y
            rw [eb, nI_clamp (by omega), show (27 : Int32) = nI 27 from rfl, pk_mul, nI_add, show (96 : Int32) = nI 96 from rfl, pk_sub (by omega)]
            congr 1
            omega
    have L8 : Sj p l e 2 s m args below meth c 2 g (MQ below (cQc g Q) args s 0 0 (gA g)) 8 E8 := by
      rw [hE8]
      refine s_ex (s_loop I8 (fun K8 k8 => WX6_next_8 C (t_X6_isLetter hg) (by decide) (t_X6_isDigit hg) (by decide) (t_X6_named hg) (by decide) (t_X6_isKey hg) (by decide) (t_X6_isSign hg) (by decide) k8 L108 L245) ?_)
      intro n lv st M1 K8 hK8 hI; rw [hI8] at hI; obtain ⟨q, rfl, rfl, hq, rfl, hs, h17, hsk⟩ := hI
      unfold BX6_next_8
      generalize hB47 : BX6_next_47 g Q (T_X6_isLetter g) (T_X6_isDigit g) (T_X6_named g) (T_X6_isKey g) (T_X6_isSign g) K8 E108 E245 = B47
      generalize hB60 : BX6_next_60 g Q (T_X6_isLetter g) (T_X6_isDigit g) (T_X6_named g) (T_X6_isKey g) (T_X6_isSign g) K8 E108 E245 = B60
      simp only [T_X6_isLetter, T_X6_isDigit, T_X6_named, T_X6_isKey, T_X6_isSign, i_const, i_lconst, i_iload, i_aload, i_lload, i_istore, i_astore, i_lstore, i_iinc, i_bin, i_div, i_un, i_i2l, i_l2i, i_lbin, i_lcmp, i_if, i_icmp, i_dup, i_dup_x1, i_dup2, i_pop, i_geti, i_getr, i_getd, i_puti, i_putz, i_putd, i_iald, i_bald, i_aald, i_iast, i_bast, i_alen, i_keep, i_ret, i_retz, i_reta, i_retl, i_retv, i_callv, i_callk, i_calls, i_mm, i_copy, i_under, i_undld, i_ldcs, i_sw, q_swc0, q_swc1, q_lg0, q_lg1, q_lent0, q_lent1, lset, lset2, q_lins0, q_lins1, q_ldel0, q_ldel1, q_ldel20, q_ldel21, q_lkeep0, q_lkeep1, q_memb0, q_memb1, cat2, Nat.reduceBEq, decide_true, decide_false, decide_eq_true_eq, cond_true, cond_false, Bool.and_true, Bool.and_false, Bool.true_and, Bool.false_and, f_iadd, f_isub, f_imul, f_ishl, f_ishr, f_iushr, f_iand, f_ior, f_idiv, f_irem, f_ineg, f_i2b, f_i2s, f_ladd, f_lmul, c_eq, c_ne, c_lt, c_ge, c_gt, c_le, cc_eq, cc_ne, cc_lt, cc_ge, cc_gt, cc_le, rfo, aof, csum, Value.category, List.take, List.drop, List.reverse, List.reverseAux, List.map, List.sum_cons, List.sum_nil, List.cons_append, List.nil_append, Option.toList, List.mem_cons, List.not_mem_nil, List.length_cons, List.length_nil, reduceIte, Nat.reduceEqDiff, Nat.reduceAdd, Nat.reduceLeDiff, Nat.reduceLT, a_day, Nat.zero_ne_one, Nat.one_ne_zero, false_and, and_false, true_and, and_true, or_false, false_or, or_true, true_or, not_true_eq_false, not_false_eq_true, Nat.zero_add, Nat.add_zero, Nat.le_refl, Nat.lt_irrefl, Nat.zero_lt_succ, Nat.zero_le, forall_const, List.cons.injEq, Value.int.injEq, Value.ref.injEq, Value.long.injEq, and_assoc, exists_and_left, exists_eq_left']
      try simp only [forall_eq]
      have e10 : M1 76 10 = nI nn := by rw [hs 76 10 (by unfold YN; omega)]; exact h10
      have e84 : M1 84 = B := by rw [← hB]; exact funext fun j => hs _ _ (by unfold YN; omega)
      have go47 : q < nn → blk (B q) = true → BX6_next_47 g Q (T_X6_isLetter g) (T_X6_isDigit g) (T_X6_named g) (T_X6_isKey g) (T_X6_isSign g) K8 E108 E245 [(0, .ref 76)] [] M1 := by
        intro hl hb
        unfold BX6_next_47
        simp only [i_const, i_lconst, i_iload, i_aload, i_lload, i_istore, i_astore, i_lstore, i_iinc, i_bin, i_div, i_un, i_i2l, i_l2i, i_lbin, i_lcmp, i_if, i_icmp, i_dup, i_dup_x1, i_dup2, i_pop, i_geti, i_getr, i_getd, i_puti, i_putz, i_putd, i_iald, i_bald, i_aald, i_iast, i_bast, i_alen, i_keep, i_ret, i_retz, i_reta, i_retl, i_retv, i_callv, i_callk, i_calls, i_mm, i_copy, i_under, i_undld, i_ldcs, i_sw, q_swc0, q_swc1, q_lg0, q_lg1, q_lent0, q_lent1, lset, lset2, q_lins0, q_lins1, q_ldel0, q_ldel1, q_ldel20, q_ldel21, q_lkeep0, q_lkeep1, q_memb0, q_memb1, cat2, Nat.reduceBEq, decide_true, decide_false, decide_eq_true_eq, cond_true, cond_false, Bool.and_true, Bool.and_false, Bool.true_and, Bool.false_and, f_iadd, f_isub, f_imul, f_ishl, f_ishr, f_iushr, f_iand, f_ior, f_idiv, f_irem, f_ineg, f_i2b, f_i2s, f_ladd, f_lmul, c_eq, c_ne, c_lt, c_ge, c_gt, c_le, cc_eq, cc_ne, cc_lt, cc_ge, cc_gt, cc_le, rfo, aof, csum, Value.category, List.take, List.drop, List.reverse, List.reverseAux, List.map, List.sum_cons, List.sum_nil, List.cons_append, List.nil_append, Option.toList, List.mem_cons, List.not_mem_nil, List.length_cons, List.length_nil, reduceIte, Nat.reduceEqDiff, Nat.reduceAdd, Nat.reduceLeDiff, Nat.reduceLT, a_day, Nat.zero_ne_one, Nat.one_ne_zero, false_and, and_false, true_and, and_true, or_false, false_or, or_true, true_or, not_true_eq_false, not_false_eq_true, Nat.zero_add, Nat.add_zero, Nat.le_refl, Nat.lt_irrefl, Nat.zero_lt_succ, Nat.zero_le, forall_const, List.cons.injEq, Value.int.injEq, Value.ref.injEq, Value.long.injEq, and_assoc, exists_and_left, exists_eq_left', forall_eq]
        rw [h17, nI_1]
        refine ⟨m_76 hg, m_76 hg, hK8 (nn - (q + 1)) _ _ _ (by omega) ?_⟩
        rw [hI8]
        exact ⟨q + 1, rfl, rfl, by omega, rfl, hs.set _ ⟨rfl, by decide, by decide⟩, ms_s _ _ _ _, by rw [← hsk]; exact (skp_b hl hb).symm⟩
      have go60 : (nn ≤ q ∨ ¬ blk (B q) = true) → BX6_next_60 g Q (T_X6_isLetter g) (T_X6_isDigit g) (T_X6_named g) (T_X6_isKey g) (T_X6_isSign g) K8 E108 E245 [(0, .ref 76)] [] M1 := by
        intro hst
        have hqs : skp B nn p' = q := by rw [← hsk]; exact rnE_stop hst
        unfold BX6_next_60
        simp only [T_X6_isLetter, i_const, i_lconst, i_iload, i_aload, i_lload, i_istore, i_astore, i_lstore, i_iinc, i_bin, i_div, i_un, i_i2l, i_l2i, i_lbin, i_lcmp, i_if, i_icmp, i_dup, i_dup_x1, i_dup2, i_pop, i_geti, i_getr, i_getd, i_puti, i_putz, i_putd, i_iald, i_bald, i_aald, i_iast, i_bast, i_alen, i_keep, i_ret, i_retz, i_reta, i_retl, i_retv, i_callv, i_callk, i_calls, i_mm, i_copy, i_under, i_undld, i_ldcs, i_sw, q_swc0, q_swc1, q_lg0, q_lg1, q_lent0, q_lent1, lset, lset2, q_lins0, q_lins1, q_ldel0, q_ldel1, q_ldel20, q_ldel21, q_lkeep0, q_lkeep1, q_memb0, q_memb1, cat2, Nat.reduceBEq, decide_true, decide_false, decide_eq_true_eq, cond_true, cond_false, Bool.and_true, Bool.and_false, Bool.true_and, Bool.false_and, f_iadd, f_isub, f_imul, f_ishl, f_ishr, f_iushr, f_iand, f_ior, f_idiv, f_irem, f_ineg, f_i2b, f_i2s, f_ladd, f_lmul, c_eq, c_ne, c_lt, c_ge, c_gt, c_le, cc_eq, cc_ne, cc_lt, cc_ge, cc_gt, cc_le, rfo, aof, csum, Value.category, List.take, List.drop, List.reverse, List.reverseAux, List.map, List.sum_cons, List.sum_nil, List.cons_append, List.nil_append, Option.toList, List.mem_cons, List.not_mem_nil, List.length_cons, List.length_nil, reduceIte, Nat.reduceEqDiff, Nat.reduceAdd, Nat.reduceLeDiff, Nat.reduceLT, a_day, Nat.zero_ne_one, Nat.one_ne_zero, false_and, and_false, true_and, and_true, or_false, false_or, or_true, true_or, not_true_eq_false, not_false_eq_true, Nat.zero_add, Nat.add_zero, Nat.le_refl, Nat.lt_irrefl, Nat.zero_lt_succ, Nat.zero_le, forall_const, List.cons.injEq, Value.int.injEq, Value.ref.injEq, Value.long.injEq, and_assoc, exists_and_left, exists_eq_left', forall_eq]
        rw [hqs] at h
        have hs2 : Sm YN M (mset (mset M1 76 18 (M1 76 17)) 76 21 0) := (hs.set _ ⟨rfl, by decide, by decide⟩).set _ ⟨rfl, by decide, by decide⟩
        have f17 : mset (mset M1 76 18 (M1 76 17)) 76 21 0 76 17 = nI q := by rw [ms_j (by decide), ms_j (by decide)]; exact h17
        have f18 : mset (mset M1 76 18 (M1 76 17)) 76 21 0 76 18 = nI q := by rw [ms_j (by decide), ms_s]; exact h17
        have f21 : mset (mset M1 76 18 (M1 76 17)) 76 21 0 76 21 = 0 := ms_s _ _ _ _
        have f10 : mset (mset M1 76 18 (M1 76 17)) 76 21 0 76 10 = nI nn := by rw [ms_j (by decide), ms_j (by decide)]; exact e10
        have f84 : mset (mset M1 76 18 (M1 76 17)) 76 21 0 84 = B := by rw [← e84]; exact funext fun j => by rw [ms_q (by decide), ms_q (by decide)]
        obtain ⟨M2, hM2⟩ : ∃ M2, mset (mset M1 76 18 (M1 76 17)) 76 21 0 = M2 := ⟨_, rfl⟩
        rw [hM2] at hs2 f17 f18 f21 f10 f84 ⊢
        rw [f17, f10, f84, nI_eq (by omega) (by omega), nI_clamp (by omega)]
        refine ⟨m_76 hg, m_76 hg, m_76 hg, m_76 hg, m_76 hg, fun z => ⟨m_76 hg, m_76 hg, m_84 hg, vm l_84 (by omega) (by decide), ?_⟩, fun z => ⟨m_76 hg, h _ (hs2.set _ ⟨rfl, by decide, by decide⟩) (by rw [ms_j (by decide)]; exact f17) ?_ (fun w => by omega) (fun _ => Or.inl ⟨rfl, ms_s _ _ _ _⟩)⟩⟩
        · have hl : q < nn := by omega
          have fin : ∀ M3 e, Sm YN M M3 → M3 76 17 = nI q → M3 76 18 = nI e → e = tkE B nn q → TKm M3 (tkS B nn q) (tkV B nn q) → Q none M3 := fun M3 e a b c d k => h M3 a b (by rw [c, d]; unfold nxE; rw [if_pos hl]) (fun _ => k) (fun w => by omega)
          unfold BX6_next_105
          simp only [T_X6_isDigit, i_const, i_lconst, i_iload, i_aload, i_lload, i_istore, i_astore, i_lstore, i_iinc, i_bin, i_div, i_un, i_i2l, i_l2i, i_lbin, i_lcmp, i_if, i_icmp, i_dup, i_dup_x1, i_dup2, i_pop, i_geti, i_getr, i_getd, i_puti, i_putz, i_putd, i_iald, i_bald, i_aald, i_iast, i_bast, i_alen, i_keep, i_ret, i_retz, i_reta, i_retl, i_retv, i_callv, i_callk, i_calls, i_mm, i_copy, i_under, i_undld, i_ldcs, i_sw, q_swc0, q_swc1, q_lg0, q_lg1, q_lent0, q_lent1, lset, lset2, q_lins0, q_lins1, q_ldel0, q_ldel1, q_ldel20, q_ldel21, q_lkeep0, q_lkeep1, q_memb0, q_memb1, cat2, Nat.reduceBEq, decide_true, decide_false, decide_eq_true_eq, cond_true, cond_false, Bool.and_true, Bool.and_false, Bool.true_and, Bool.false_and, f_iadd, f_isub, f_imul, f_ishl, f_ishr, f_iushr, f_iand, f_ior, f_idiv, f_irem, f_ineg, f_i2b, f_i2s, f_ladd, f_lmul, c_eq, c_ne, c_lt, c_ge, c_gt, c_le, cc_eq, cc_ne, cc_lt, cc_ge, cc_gt, cc_le, rfo, aof, csum, Value.category, List.take, List.drop, List.reverse, List.reverseAux, List.map, List.sum_cons, List.sum_nil, List.cons_append, List.nil_append, Option.toList, List.mem_cons, List.not_mem_nil, List.length_cons, List.length_nil, reduceIte, Nat.reduceEqDiff, Nat.reduceAdd, Nat.reduceLeDiff, Nat.reduceLT, a_day, Nat.zero_ne_one, Nat.one_ne_zero, false_and, and_false, true_and, and_true, or_false, false_or, or_true, true_or, not_true_eq_false, not_false_eq_true, Nat.zero_add, Nat.add_zero, Nat.le_refl, Nat.lt_irrefl, Nat.zero_lt_succ, Nat.zero_le, forall_const, List.cons.injEq, Value.int.injEq, Value.ref.injEq, Value.long.injEq, and_assoc, exists_and_left, exists_eq_left', forall_eq]
          refine ⟨fun y => ?_, fun y => iE108 (nn - q) _ _ _ ?_⟩
          · have y := b2n y
            unfold BX6_next_237
            simp only [T_X6_isSign, i_const, i_lconst, i_iload, i_aload, i_lload, i_istore, i_astore, i_lstore, i_iinc, i_bin, i_div, i_un, i_i2l, i_l2i, i_lbin, i_lcmp, i_if, i_icmp, i_dup, i_dup_x1, i_dup2, i_pop, i_geti, i_getr, i_getd, i_puti, i_putz, i_putd, i_iald, i_bald, i_aald, i_iast, i_bast, i_alen, i_keep, i_ret, i_retz, i_reta, i_retl, i_retv, i_callv, i_callk, i_calls, i_mm, i_copy, i_under, i_undld, i_ldcs, i_sw, q_swc0, q_swc1, q_lg0, q_lg1, q_lent0, q_lent1, lset, lset2, q_lins0, q_lins1, q_ldel0, q_ldel1, q_ldel20, q_ldel21, q_lkeep0, q_lkeep1, q_memb0, q_memb1, cat2, Nat.reduceBEq, decide_true, decide_false, decide_eq_true_eq, cond_true, cond_false, Bool.and_true, Bool.and_false, Bool.true_and, Bool.false_and, f_iadd, f_isub, f_imul, f_ishl, f_ishr, f_iushr, f_iand, f_ior, f_idiv, f_irem, f_ineg, f_i2b, f_i2s, f_ladd, f_lmul, c_eq, c_ne, c_lt, c_ge, c_gt, c_le, cc_eq, cc_ne, cc_lt, cc_ge, cc_gt, cc_le, rfo, aof, csum, Value.category, List.take, List.drop, List.reverse, List.reverseAux, List.map, List.sum_cons, List.sum_nil, List.cons_append, List.nil_append, Option.toList, List.mem_cons, List.not_mem_nil, List.length_cons, List.length_nil, reduceIte, Nat.reduceEqDiff, Nat.reduceAdd, Nat.reduceLeDiff, Nat.reduceLT, a_day, Nat.zero_ne_one, Nat.one_ne_zero, false_and, and_false, true_and, and_true, or_false, false_or, or_true, true_or, not_true_eq_false, not_false_eq_true, Nat.zero_add, Nat.add_zero, Nat.le_refl, Nat.lt_irrefl, Nat.zero_lt_succ, Nat.zero_le, forall_const, List.cons.injEq, Value.int.injEq, Value.ref.injEq, Value.long.injEq, and_assoc, exists_and_left, exists_eq_left', forall_eq]
            refine ⟨fun u => ⟨m_76 hg, m_76 hg, ?_⟩, fun u => ⟨m_76 hg, iE245 (nn - q) _ _ _ ?_⟩⟩
            · have u := b2n u
              rw [f18, nI_1]
              have ee : q + 1 = tkE B nn q := by unfold tkE; rw [if_neg y, if_neg u]
              unfold BX6_next_363
              simp only [i_const, i_lconst, i_iload, i_aload, i_lload, i_istore, i_astore, i_lstore, i_iinc, i_bin, i_div, i_un, i_i2l, i_l2i, i_lbin, i_lcmp, i_if, i_icmp, i_dup, i_dup_x1, i_dup2, i_pop, i_geti, i_getr, i_getd, i_puti, i_putz, i_putd, i_iald, i_bald, i_aald, i_iast, i_bast, i_alen, i_keep, i_ret, i_retz, i_reta, i_retl, i_retv, i_callv, i_callk, i_calls, i_mm, i_copy, i_under, i_undld, i_ldcs, i_sw, q_swc0, q_swc1, q_lg0, q_lg1, q_lent0, q_lent1, lset, lset2, q_lins0, q_lins1, q_ldel0, q_ldel1, q_ldel20, q_ldel21, q_lkeep0, q_lkeep1, q_memb0, q_memb1, cat2, Nat.reduceBEq, decide_true, decide_false, decide_eq_true_eq, cond_true, cond_false, Bool.and_true, Bool.and_false, Bool.true_and, Bool.false_and, f_iadd, f_isub, f_imul, f_ishl, f_ishr, f_iushr, f_iand, f_ior, f_idiv, f_irem, f_ineg, f_i2b, f_i2s, f_ladd, f_lmul, c_eq, c_ne, c_lt, c_ge, c_gt, c_le, cc_eq, cc_ne, cc_lt, cc_ge, cc_gt, cc_le, rfo, aof, csum, Value.category, List.take, List.drop, List.reverse, List.reverseAux, List.map, List.sum_cons, List.sum_nil, List.cons_append, List.nil_append, Option.toList, List.mem_cons, List.not_mem_nil, List.length_cons, List.length_nil, reduceIte, Nat.reduceEqDiff, Nat.reduceAdd, Nat.reduceLeDiff, Nat.reduceLT, a_day, Nat.zero_ne_one, Nat.one_ne_zero, false_and, and_false, true_and, and_true, or_false, false_or, or_true, true_or, not_true_eq_false, not_false_eq_true, Nat.zero_add, Nat.add_zero, Nat.le_refl, Nat.lt_irrefl, Nat.zero_lt_succ, Nat.zero_le, forall_const, List.cons.injEq, Value.int.injEq, Value.ref.injEq, Value.long.injEq, and_assoc, exists_and_left, exists_eq_left', forall_eq]
              refine ⟨fun v => ⟨m_76 hg, fin _ (q + 1) ((hs2.set _ ⟨rfl, by decide, by decide⟩).set _ ⟨rfl, by decide, by decide⟩) (by rw [ms_j (by decide), ms_j (by decide)]; exact f17) (by rw [ms_j (by decide), ms_s]) ee ?_⟩, fun v => ⟨m_76 hg, fin _ (q + 1) ((hs2.set _ ⟨rfl, by decide, by decide⟩).set _ ⟨rfl, by decide, by decide⟩) (by rw [ms_j (by decide), ms_j (by decide)]; exact f17) (by rw [ms_j (by decide), ms_s]) ee ?_⟩⟩
              · have v := b2n v
                have es : tkS B nn q = 1 := by unfold tkS; rw [if_neg y, if_neg u, if_neg v]
                rw [es]
                exact Or.inr (Or.inl ⟨rfl, ms_s _ _ _ _⟩)
              · have v := b2t v
                have es : tkS B nn q = B q := by unfold tkS; rw [if_neg y, if_neg u, if_pos v]
                rw [es]
                exact Or.inr (Or.inr (Or.inr (Or.inr ⟨v, ms_s _ _ _ _⟩)))
            · have u := b2t u
              rw [hI245]
              exact ⟨q, q, rfl, rfl, hl, Nat.le_refl _, by omega, rfl, hs2.set _ ⟨rfl, by decide, by decide⟩, by rw [ms_j (by decide)]; exact f17, by rw [ms_j (by decide)]; exact f18, by rw [ms_s, Nat.sub_self]; rfl, hqs.symm, y, u, rfl⟩
          · have y := b2t y
            rw [hI108]
            exact ⟨q, q, rfl, rfl, hl, Nat.le_refl _, by omega, rfl, hs2, f17, f18, by rw [f21, Nat.sub_self]; rfl, hqs.symm, y, rfl, fun t ht => by omega⟩
        · rw [ms_j (by decide), f18]
          unfold nxE
          split <;> (congr 1; omega)
      rw [e10, h17, nI_leI (by omega) (by omega), nI_clamp (by omega), e84]
      refine ⟨m_76 hg, m_76 hg, fun z => ?_, fun z => ⟨m_76 hg, m_76 hg, m_84 hg, vm l_84 (by omega) (by decide), fun y => ?_, fun y => ⟨m_76 hg, m_76 hg, m_84 hg, vm l_84 (by omega) (by decide), fun u => ?_, fun u => ?_⟩⟩⟩
      · subst hB60; exact go60 (Or.inl z)
      · subst hB47; exact go47 (by omega) (decide_eq_true (Or.inl y))
      · subst hB60; exact go60 (Or.inr fun w => (of_decide_eq_true w).elim y u)
      · subst hB47; exact go47 (by omega) (decide_eq_true (Or.inr (Decidable.not_not.mp u)))
    refine s_of (fun lv st M0 hs => ?_) (WX6_next_0 C (t_X6_isLetter hg) (by decide) (t_X6_isDigit hg) (by decide) (t_X6_named hg) (by decide) (t_X6_isKey hg) (by decide) (t_X6_isSign hg) (by decide) L8 L108 L245)
    obtain ⟨rfl, rfl, rfl⟩ := hs
    unfold BX6_next_0
    simp only [T_X6_isLetter, T_X6_isDigit, T_X6_named, T_X6_isKey, T_X6_isSign, i_const, i_lconst, i_iload, i_aload, i_lload, i_istore, i_astore, i_lstore, i_iinc, i_bin, i_div, i_un, i_i2l, i_l2i, i_lbin, i_lcmp, i_if, i_icmp, i_dup, i_dup_x1, i_dup2, i_pop, i_geti, i_getr, i_getd, i_puti, i_putz, i_putd, i_iald, i_bald, i_aald, i_iast, i_bast, i_alen, i_keep, i_ret, i_retz, i_reta, i_retl, i_retv, i_callv, i_callk, i_calls, i_mm, i_copy, i_under, i_undld, i_ldcs, i_sw, q_swc0, q_swc1, q_lg0, q_lg1, q_lent0, q_lent1, lset, lset2, q_lins0, q_lins1, q_ldel0, q_ldel1, q_ldel20, q_ldel21, q_lkeep0, q_lkeep1, q_memb0, q_memb1, cat2, Nat.reduceBEq, decide_true, decide_false, decide_eq_true_eq, cond_true, cond_false, Bool.and_true, Bool.and_false, Bool.true_and, Bool.false_and, f_iadd, f_isub, f_imul, f_ishl, f_ishr, f_iushr, f_iand, f_ior, f_idiv, f_irem, f_ineg, f_i2b, f_i2s, f_ladd, f_lmul, c_eq, c_ne, c_lt, c_ge, c_gt, c_le, cc_eq, cc_ne, cc_lt, cc_ge, cc_gt, cc_le, rfo, aof, csum, Value.category, List.take, List.drop, List.reverse, List.reverseAux, List.map, List.sum_cons, List.sum_nil, List.cons_append, List.nil_append, Option.toList, List.mem_cons, List.not_mem_nil, List.length_cons, List.length_nil, reduceIte, Nat.reduceEqDiff, Nat.reduceAdd, Nat.reduceLeDiff, Nat.reduceLT, a_day, Nat.zero_ne_one, Nat.one_ne_zero, false_and, and_false, true_and, and_true, or_false, false_or, or_true, true_or, not_true_eq_false, not_false_eq_true, Nat.zero_add, Nat.add_zero, Nat.le_refl, Nat.lt_irrefl, Nat.zero_lt_succ, Nat.zero_le, forall_const, List.cons.injEq, Value.int.injEq, Value.ref.injEq, Value.long.injEq, and_assoc, exists_and_left, exists_eq_left']
    try simp only [forall_eq]
    refine ⟨m_76 hg, m_76 hg, iE8 (nn - p') _ _ _ ?_⟩
    rw [hI8]
    exact ⟨p', rfl, rfl, hp, rfl, Sm.rf.set _ ⟨rfl, by decide, by decide⟩, by rw [ms_s]; exact h18, rfl⟩
