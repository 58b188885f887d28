/-! ===== tokens, as both sides mean them; the class's tokens ===== -/
def ltr (c : Int32) : Bool := decide (97 ≤ c ∧ c ≤ 122)
def dig (c : Int32) : Bool := decide (48 ≤ c ∧ c ≤ 57)
def blk (c : Int32) : Bool := decide (c = 32 ∨ c = 10)
def sig (c : Int32) : Bool := decide (c = 40 ∨ c = 41 ∨ c = 42 ∨ c = 43 ∨ c = 45 ∨ c = 59 ∨ c = 60 ∨ c = 61)
/-- as far as they are such, from p on, k at most -/
def rnE (P : Int32 → Bool) (B : Nat → Int32) : Nat → Nat → Nat
  | 0, p => p
  | k + 1, p => if P (B p) then rnE P B k (p + 1) else p
theorem rnE_le (P : Int32 → Bool) (B : Nat → Int32) : ∀ k p, p ≤ rnE P B k p ∧ rnE P B k p ≤ p + k
  | 0, p => ⟨Nat.le_refl _, Nat.le_refl _⟩
  | k + 1, p => by
    simp only [rnE]
    split
    · have := rnE_le P B k (p + 1); omega
    · omega
theorem rnE_out (P : Int32 → Bool) (B : Nat → Int32) : ∀ k p, rnE P B k p < p + k → ¬ P (B (rnE P B k p)) = true
  | 0, p, h => by simp [rnE] at h
  | k + 1, p, h => by
    simp only [rnE] at h ⊢
    split
    · next c => rw [if_pos c] at h; exact rnE_out P B k (p + 1) (by omega)
    · next c => exact c
theorem rnE_in (P : Int32 → Bool) (B : Nat → Int32) : ∀ k p q, p ≤ q → q < rnE P B k p → P (B q) = true
  | 0, p, q, h1, h2 => by simp [rnE] at h2; omega
  | k + 1, p, q, h1, h2 => by
    simp only [rnE] at h2
    split at h2
    · next c =>
      by_cases e : q = p
      · rw [e]; exact c
      · exact rnE_in P B k (p + 1) q (by omega) h2
    · omega
theorem rnE_step {P : Int32 → Bool} {B : Nat → Int32} {n p : Nat} (h : p < n) (hp : P (B p) = true) : rnE P B (n - p) p = rnE P B (n - (p + 1)) (p + 1) := by
  rw [show n - p = (n - (p + 1)) + 1 by omega]
  simp only [rnE, if_pos hp]
theorem rnE_stop {P : Int32 → Bool} {B : Nat → Int32} {n p : Nat} (h : n ≤ p ∨ ¬ P (B p) = true) : rnE P B (n - p) p = p := by
  cases hk : n - p with
  | zero => rfl
  | succ k =>
    have : ¬ P (B p) = true := by
      rcases h with h | h
      · omega
      · exact h
    simp only [rnE, if_neg this]
def spB (B : Nat → Int32) (p q i : Nat) : Bool := decide (q - p = lenS.getD i 0) && (List.range (lenS.getD i 0)).all (fun k => decide (B (p + k) = (bytS.getD i []).getD k 0))
def wfd (f : Nat → Bool) : Nat → Nat → Nat
  | 0, w => w
  | k + 1, w => if f w then w else wfd f k (w + 1)
theorem wfd_le (f : Nat → Bool) : ∀ k w, w ≤ wfd f k w ∧ wfd f k w ≤ w + k
  | 0, w => ⟨Nat.le_refl _, Nat.le_refl _⟩
  | k + 1, w => by
    simp only [wfd]
    split
    · omega
    · have := wfd_le f k (w + 1); omega
def wix (B : Nat → Int32) (p q : Nat) : Nat := wfd (fun w => spB B p q (w + 1)) 12 0
def vlN (B : Nat → Int32) : Nat → Nat → Int32 → Int32
  | 0, _, a => a
  | k + 1, p, a => vlN B k (p + 1) (10 * a + B p - 48)
def tkE (B : Nat → Int32) (n p : Nat) : Nat := if ltr (B p) then rnE ltr B (n - p) p else if dig (B p) then rnE dig B (n - p) p else p + 1
def tkS (B : Nat → Int32) (n p : Nat) : Int32 :=
  if ltr (B p) then (if wix B p (tkE B n p) < 6 then 3 else if wix B p (tkE B n p) < 12 then nI (wix B p (tkE B n p) - 2) else 1)
  else if dig (B p) then (if 4 < tkE B n p - p then 1 else 2) else if sig (B p) then B p else 1
def tkV (B : Nat → Int32) (n p : Nat) : Int32 :=
  if ltr (B p) then (if wix B p (tkE B n p) < 6 then nI (wix B p (tkE B n p)) else 0)
  else if dig (B p) then vlN B (min (tkE B n p) (p + 4) - p) p 0 else 0
theorem tkE_le {B : Nat → Int32} {n p : Nat} (h : p < n) : p + 1 ≤ tkE B n p ∧ tkE B n p ≤ n := by
  unfold tkE
  split
  · next c => rw [rnE_step h c]; have := rnE_le ltr B (n - (p + 1)) (p + 1); omega
  · split
    · next c => rw [rnE_step h c]; have := rnE_le dig B (n - (p + 1)) (p + 1); omega
    · omega
def skp (B : Nat → Int32) (n p : Nat) : Nat := rnE blk B (n - p) p
/-- where the tokens begin -/
def pl (B : Nat → Int32) (n : Nat) : Nat → Nat
  | 0 => skp B n 0
  | k + 1 => if pl B n k < n then skp B n (tkE B n (pl B n k)) else n
theorem r_4 {g : WG} (hr : Reg g 3 32) : okq g 7 4 := okR hr (by decide) (by decide) rfl
theorem r_7 {g : WG} (hr : Reg g 3 32) : okq g 7 7 := okR hr (by decide) (by decide) rfl
theorem v_4 {i : Nat} (hi : i < 160) : vp_in (nI i) (ln 4) := vp_in_nI (n := i) (N := 160) hi (by decide)
def T_X3_isLetter (g : WG) (as : List Value) (M : MM) (Q : Option Value → MM → Prop) : Prop := ∃ c, as = [.int c] ∧ Q (some (.int (b2i (ltr c = true)))) M
set_option maxRecDepth 100000 in
set_option maxHeartbeats 1000000 in
theorem t_X3_isLetter {l : Launch} {g : WG} (hr : Reg g 3 32) : Ct l g yX3_isLetter cX3_isLetter 1 ((Option.some FieldType.boolean)) 1 (T_X3_isLetter g) := by
  refine Ct.of (by decide) (fun as M Q h => ?_) (fun p e s m args below meth c as M Q h C => ?_)
  · obtain ⟨x, rfl, h⟩ := h; exact ⟨by simp, by simp [Value.category]⟩
  · obtain ⟨x, rfl, h⟩ := h
    refine s_of (fun lv st M0 hs => ?_) (WX3_isLetter_0 C)
    obtain ⟨rfl, rfl, rfl⟩ := hs
    unfold BX3_isLetter_0
    simp only [i_const, i_lconst, i_iload, i_aload, i_lload, i_istore, i_astore, i_lstore, i_iinc, i_bin, i_div, i_un, i_i2l, i_l2i, i_lbin, i_lcmp, i_if, i_icmp, i_dup, i_dup_x1, i_dup2, i_pop, i_geti, i_getr, i_getd, i_puti, i_putz, i_putd, i_iald, i_bald, i_aald, i_iast, i_bast, i_alen, i_keep, i_ret, i_retz, i_reta, i_retl, i_retv, i_callv, i_callk, i_calls, i_mm, i_copy, i_under, i_undld, i_ldcs, i_sw, q_swc0, q_swc1, q_lg0, q_lg1, q_lent0, q_lent1, lset, lset2, q_lins0, q_lins1, q_ldel0, q_ldel1, q_ldel20, q_ldel21, q_lkeep0, q_lkeep1, q_memb0, q_memb1, cat2, Nat.reduceBEq, decide_true, decide_false, decide_eq_true_eq, cond_true, cond_false, Bool.and_true, Bool.and_false, Bool.true_and, Bool.false_and, f_iadd, f_isub, f_imul, f_ishl, f_ishr, f_iushr, f_iand, f_ior, f_idiv, f_irem, f_ineg, f_i2b, f_i2s, f_ladd, f_lmul, c_eq, c_ne, c_lt, c_ge, c_gt, c_le, cc_eq, cc_ne, cc_lt, cc_ge, cc_gt, cc_le, rfo, aof, csum, Value.category, List.take, List.drop, List.reverse, List.reverseAux, List.map, List.sum_cons, List.sum_nil, List.cons_append, List.nil_append, Option.toList, List.mem_cons, List.not_mem_nil, List.length_cons, List.length_nil, reduceIte, Nat.reduceEqDiff, Nat.reduceAdd, Nat.reduceLeDiff, Nat.reduceLT, a_day, Nat.zero_ne_one, Nat.one_ne_zero, false_and, and_false, true_and, and_true, or_false, false_or, or_true, true_or, not_true_eq_false, not_false_eq_true, Nat.zero_add, Nat.add_zero, Nat.le_refl, Nat.lt_irrefl, Nat.zero_lt_succ, Nat.zero_le, forall_const, List.cons.injEq, Value.int.injEq, Value.ref.injEq, Value.long.injEq, and_assoc, exists_and_left, exists_eq_left']
    try simp only [forall_eq]
    refine ⟨fun y => ?_, fun y => ⟨fun u => ?_, fun u => ?_⟩⟩
    · rwa [b2i_f (fun q => i_not_lt.mpr (of_decide_eq_true q).1 y)] at h
    · rwa [b2i_f (fun q => i_not_lt.mpr (of_decide_eq_true q).2 u)] at h
    · have c : ltr x = true := decide_eq_true ⟨i_not_lt.mp y, i_not_lt.mp u⟩
      rwa [b2i_t c] at h
def T_X3_isDigit (g : WG) (as : List Value) (M : MM) (Q : Option Value → MM → Prop) : Prop := ∃ c, as = [.int c] ∧ Q (some (.int (b2i (dig c = true)))) M
set_option maxRecDepth 100000 in
set_option maxHeartbeats 1000000 in
theorem t_X3_isDigit {l : Launch} {g : WG} (hr : Reg g 3 32) : Ct l g yX3_isDigit cX3_isDigit 1 ((Option.some FieldType.boolean)) 1 (T_X3_isDigit g) := by
  refine Ct.of (by decide) (fun as M Q h => ?_) (fun p e s m args below meth c as M Q h C => ?_)
  · obtain ⟨x, rfl, h⟩ := h; exact ⟨by simp, by simp [Value.category]⟩
  · obtain ⟨x, rfl, h⟩ := h
    refine s_of (fun lv st M0 hs => ?_) (WX3_isDigit_0 C)
    obtain ⟨rfl, rfl, rfl⟩ := hs
    unfold BX3_isDigit_0
    simp only [i_const, i_lconst, i_iload, i_aload, i_lload, i_istore, i_astore, i_lstore, i_iinc, i_bin, i_div, i_un, i_i2l, i_l2i, i_lbin, i_lcmp, i_if, i_icmp, i_dup, i_dup_x1, i_dup2, i_pop, i_geti, i_getr, i_getd, i_puti, i_putz, i_putd, i_iald, i_bald, i_aald, i_iast, i_bast, i_alen, i_keep, i_ret, i_retz, i_reta, i_retl, i_retv, i_callv, i_callk, i_calls, i_mm, i_copy, i_under, i_undld, i_ldcs, i_sw, q_swc0, q_swc1, q_lg0, q_lg1, q_lent0, q_lent1, lset, lset2, q_lins0, q_lins1, q_ldel0, q_ldel1, q_ldel20, q_ldel21, q_lkeep0, q_lkeep1, q_memb0, q_memb1, cat2, Nat.reduceBEq, decide_true, decide_false, decide_eq_true_eq, cond_true, cond_false, Bool.and_true, Bool.and_false, Bool.true_and, Bool.false_and, f_iadd, f_isub, f_imul, f_ishl, f_ishr, f_iushr, f_iand, f_ior, f_idiv, f_irem, f_ineg, f_i2b, f_i2s, f_ladd, f_lmul, c_eq, c_ne, c_lt, c_ge, c_gt, c_le, cc_eq, cc_ne, cc_lt, cc_ge, cc_gt, cc_le, rfo, aof, csum, Value.category, List.take, List.drop, List.reverse, List.reverseAux, List.map, List.sum_cons, List.sum_nil, List.cons_append, List.nil_append, Option.toList, List.mem_cons, List.not_mem_nil, List.length_cons, List.length_nil, reduceIte, Nat.reduceEqDiff, Nat.reduceAdd, Nat.reduceLeDiff, Nat.reduceLT, a_day, Nat.zero_ne_one, Nat.one_ne_zero, false_and, and_false, true_and, and_true, or_false, false_or, or_true, true_or, not_true_eq_false, not_false_eq_true, Nat.zero_add, Nat.add_zero, Nat.le_refl, Nat.lt_irrefl, Nat.zero_lt_succ, Nat.zero_le, forall_const, List.cons.injEq, Value.int.injEq, Value.ref.injEq, Value.long.injEq, and_assoc, exists_and_left, exists_eq_left']
    try simp only [forall_eq]
    refine ⟨fun y => ?_, fun y => ⟨fun u => ?_, fun u => ?_⟩⟩
    · rwa [b2i_f (fun q => i_not_lt.mpr (of_decide_eq_true q).1 y)] at h
    · rwa [b2i_f (fun q => i_not_lt.mpr (of_decide_eq_true q).2 u)] at h
    · have c : dig x = true := decide_eq_true ⟨i_not_lt.mp y, i_not_lt.mp u⟩
      rwa [b2i_t c] at h
def T_X3_isSign (g : WG) (as : List Value) (M : MM) (Q : Option Value → MM → Prop) : Prop := ∃ c, as = [.int c] ∧ Q (some (.int (b2i (sig c = true)))) M
set_option maxRecDepth 100000 in
set_option maxHeartbeats 1000000 in
theorem t_X3_isSign {l : Launch} {g : WG} (hr : Reg g 3 32) : Ct l g yX3_isSign cX3_isSign 1 ((Option.some FieldType.boolean)) 1 (T_X3_isSign g) := by
  refine Ct.of (by decide) (fun as M Q h => ?_) (fun p e s m args below meth c as M Q h C => ?_)
  · obtain ⟨x, rfl, h⟩ := h; exact ⟨by simp, by simp [Value.category]⟩
  · obtain ⟨x, rfl, h⟩ := h
    refine s_of (fun lv st M0 hs => ?_) (WX3_isSign_0 C)
    obtain ⟨rfl, rfl, rfl⟩ := hs
    unfold BX3_isSign_0
    simp only [i_const, i_lconst, i_iload, i_aload, i_lload, i_istore, i_astore, i_lstore, i_iinc, i_bin, i_div, i_un, i_i2l, i_l2i, i_lbin, i_lcmp, i_if, i_icmp, i_dup, i_dup_x1, i_dup2, i_pop, i_geti, i_getr, i_getd, i_puti, i_putz, i_putd, i_iald, i_bald, i_aald, i_iast, i_bast, i_alen, i_keep, i_ret, i_retz, i_reta, i_retl, i_retv, i_callv, i_callk, i_calls, i_mm, i_copy, i_under, i_undld, i_ldcs, i_sw, q_swc0, q_swc1, q_lg0, q_lg1, q_lent0, q_lent1, lset, lset2, q_lins0, q_lins1, q_ldel0, q_ldel1, q_ldel20, q_ldel21, q_lkeep0, q_lkeep1, q_memb0, q_memb1, cat2, Nat.reduceBEq, decide_true, decide_false, decide_eq_true_eq, cond_true, cond_false, Bool.and_true, Bool.and_false, Bool.true_and, Bool.false_and, f_iadd, f_isub, f_imul, f_ishl, f_ishr, f_iushr, f_iand, f_ior, f_idiv, f_irem, f_ineg, f_i2b, f_i2s, f_ladd, f_lmul, c_eq, c_ne, c_lt, c_ge, c_gt, c_le, cc_eq, cc_ne, cc_lt, cc_ge, cc_gt, cc_le, rfo, aof, csum, Value.category, List.take, List.drop, List.reverse, List.reverseAux, List.map, List.sum_cons, List.sum_nil, List.cons_append, List.nil_append, Option.toList, List.mem_cons, List.not_mem_nil, List.length_cons, List.length_nil, reduceIte, Nat.reduceEqDiff, Nat.reduceAdd, Nat.reduceLeDiff, Nat.reduceLT, a_day, Nat.zero_ne_one, Nat.one_ne_zero, false_and, and_false, true_and, and_true, or_false, false_or, or_true, true_or, not_true_eq_false, not_false_eq_true, Nat.zero_add, Nat.add_zero, Nat.le_refl, Nat.lt_irrefl, Nat.zero_lt_succ, Nat.zero_le, forall_const, List.cons.injEq, Value.int.injEq, Value.ref.injEq, Value.long.injEq, and_assoc, exists_and_left, exists_eq_left']
    try simp only [forall_eq]
    have t : ∀ y : Int32, sig y = true → x = y → Q (some (.int 1)) M0 := fun y hy e => by subst e; rwa [b2i_t hy] at h
    refine ⟨t 40 (by decide), fun e1 => ⟨t 41 (by decide), fun e2 => ⟨t 42 (by decide), fun e3 => ⟨t 43 (by decide), fun e4 => ⟨t 45 (by decide), fun e5 => ⟨t 59 (by decide), fun e6 => ⟨t 60 (by decide), fun e7 => ⟨t 61 (by decide), fun e8 => ?_⟩⟩⟩⟩⟩⟩⟩⟩
    rwa [b2i_f] at h
    unfold sig
    rw [decide_eq_true_eq]
    intro q
    rcases q with q | q | q | q | q | q | q | q
    · exact e1 q
    · exact e2 q
    · exact e3 q
    · exact e4 q
    · exact e5 q
    · exact e6 q
    · exact e7 q
    · exact e8 q
def T_X3_runEnd (g : WG) (as : List Value) (M : MM) (Q : Option Value → MM → Prop) : Prop := ∃ p lo hi n, as = [.ref 3, .int (nI p), .int lo, .int hi] ∧ M 3 4 = nI n ∧ p ≤ n ∧ n ≤ 160 ∧ Q (some (.int (nI (rnE (fun c => decide (lo ≤ c ∧ c ≤ hi)) (M 4) (n - p) p)))) M
set_option maxRecDepth 100000 in
set_option maxHeartbeats 1000000 in
theorem t_X3_runEnd {l : Launch} {g : WG} (hr : Reg g 3 32) : Ct l g yX3_runEnd cX3_runEnd 5 ((Option.some FieldType.int)) 1 (T_X3_runEnd g) := by
  refine Ct.of (by decide) (fun as M Q h => ?_) (fun p e s m args below meth c as M Q h C => ?_)
  · obtain ⟨p', lo, hi, nn, rfl, h4, hp, hn, h⟩ := h; exact ⟨by simp, by simp [Value.category]⟩
  · obtain ⟨p', lo, hi, nn, rfl, h4, hp, hn, h⟩ := h
    obtain ⟨I3, hI3⟩ : ∃ I : Nat → PP, I = (fun n lv st M' => M' = M ∧ ∃ i, lv = [(0, .ref 3), (2, .int lo), (3, .int hi), (4, .int (nI i))] ∧ st = [] ∧ i ≤ nn ∧ n = nn - i ∧ rnE (fun c => decide (lo ≤ c ∧ c ≤ hi)) (M 4) (nn - i) i = rnE (fun c => decide (lo ≤ c ∧ c ≤ hi)) (M 4) (nn - p') p') := ⟨_, rfl⟩
    obtain ⟨E3, hE3⟩ : ∃ E : PP, E = (fun lv st M => ∃ n, I3 n lv st M) := ⟨_, rfl⟩
    have iE3 : ∀ n lv st M, I3 n lv st M → E3 lv st M := fun n lv st M h => by rw [hE3]; exact ⟨n, h⟩
    have L3 : Sj p l e 1 s m args below meth c 5 g (MQ below (cQc g Q) args s 0 0 (gA g)) 3 E3 := by
      rw [hE3]
      refine s_ex (s_loop I3 (fun K3 k3 => WX3_runEnd_3 C k3) ?_)
      intro n lv st M1 K3 hK3 hI; rw [hI3] at hI; obtain ⟨rfl, i, rfl, rfl, hi', rfl, he⟩ := hI
      unfold BX3_runEnd_3
      simp only [i_const, i_lconst, i_iload, i_aload, i_lload, i_istore, i_astore, i_lstore, i_iinc, i_bin, i_div, i_un, i_i2l, i_l2i, i_lbin, i_lcmp, i_if, i_icmp, i_dup, i_dup_x1, i_dup2, i_pop, i_geti, i_getr, i_getd, i_puti, i_putz, i_putd, i_iald, i_bald, i_aald, i_iast, i_bast, i_alen, i_keep, i_ret, i_retz, i_reta, i_retl, i_retv, i_callv, i_callk, i_calls, i_mm, i_copy, i_under, i_undld, i_ldcs, i_sw, q_swc0, q_swc1, q_lg0, q_lg1, q_lent0, q_lent1, lset, lset2, q_lins0, q_lins1, q_ldel0, q_ldel1, q_ldel20, q_ldel21, q_lkeep0, q_lkeep1, q_memb0, q_memb1, cat2, Nat.reduceBEq, decide_true, decide_false, decide_eq_true_eq, cond_true, cond_false, Bool.and_true, Bool.and_false, Bool.true_and, Bool.false_and, f_iadd, f_isub, f_imul, f_ishl, f_ishr, f_iushr, f_iand, f_ior, f_idiv, f_irem, f_ineg, f_i2b, f_i2s, f_ladd, f_lmul, c_eq, c_ne, c_lt, c_ge, c_gt, c_le, cc_eq, cc_ne, cc_lt, cc_ge, cc_gt, cc_le, rfo, aof, csum, Value.category, List.take, List.drop, List.reverse, List.reverseAux, List.map, List.sum_cons, List.sum_nil, List.cons_append, List.nil_append, Option.toList, List.mem_cons, List.not_mem_nil, List.length_cons, List.length_nil, reduceIte, Nat.reduceEqDiff, Nat.reduceAdd, Nat.reduceLeDiff, Nat.reduceLT, a_day, Nat.zero_ne_one, Nat.one_ne_zero, false_and, and_false, true_and, and_true, or_false, false_or, or_true, true_or, not_true_eq_false, not_false_eq_true, Nat.zero_add, Nat.add_zero, Nat.le_refl, Nat.lt_irrefl, Nat.zero_lt_succ, Nat.zero_le, forall_const, List.cons.injEq, Value.int.injEq, Value.ref.injEq, Value.long.injEq, and_assoc, exists_and_left, exists_eq_left']
      try simp only [forall_eq]
      rw [h4, nI_leI (by omega) (by omega), nI_clamp (by omega)]
      refine ⟨r_3 hr, fun z => ?_, fun z => ⟨r_3 hr, r_4 hr, v_4 (by omega), fun y => ?_, fun y => ⟨r_3 hr, r_4 hr, v_4 (by omega), fun u => ?_, fun u => ?_⟩⟩⟩
      · rw [rnE_stop (Or.inl z)] at he
        rw [← he] at h; exact h
      · rw [rnE_stop (Or.inr (fun q => i_not_lt.mpr (of_decide_eq_true q).1 y))] at he
        rw [← he] at h; exact h
      · rw [rnE_stop (Or.inr (fun q => i_not_lt.mpr (of_decide_eq_true q).2 u))] at he
        rw [← he] at h; exact h
      · rw [nI_1]
        refine hK3 (nn - (i + 1)) _ _ _ (by omega) ?_
        rw [hI3]
        exact ⟨rfl, i + 1, rfl, rfl, by omega, rfl, by rw [← he]; exact (rnE_step (P := fun c => decide (lo ≤ c ∧ c ≤ hi)) (by omega) (decide_eq_true ⟨i_not_lt.mp y, i_not_lt.mp u⟩)).symm⟩
    refine s_of (fun lv st M0 hs => ?_) (WX3_runEnd_0 C L3)
    obtain ⟨rfl, rfl, rfl⟩ := hs
    unfold BX3_runEnd_0
    simp only [i_const, i_lconst, i_iload, i_aload, i_lload, i_istore, i_astore, i_lstore, i_iinc, i_bin, i_div, i_un, i_i2l, i_l2i, i_lbin, i_lcmp, i_if, i_icmp, i_dup, i_dup_x1, i_dup2, i_pop, i_geti, i_getr, i_getd, i_puti, i_putz, i_putd, i_iald, i_bald, i_aald, i_iast, i_bast, i_alen, i_keep, i_ret, i_retz, i_reta, i_retl, i_retv, i_callv, i_callk, i_calls, i_mm, i_copy, i_under, i_undld, i_ldcs, i_sw, q_swc0, q_swc1, q_lg0, q_lg1, q_lent0, q_lent1, lset, lset2, q_lins0, q_lins1, q_ldel0, q_ldel1, q_ldel20, q_ldel21, q_lkeep0, q_lkeep1, q_memb0, q_memb1, cat2, Nat.reduceBEq, decide_true, decide_false, decide_eq_true_eq, cond_true, cond_false, Bool.and_true, Bool.and_false, Bool.true_and, Bool.false_and, f_iadd, f_isub, f_imul, f_ishl, f_ishr, f_iushr, f_iand, f_ior, f_idiv, f_irem, f_ineg, f_i2b, f_i2s, f_ladd, f_lmul, c_eq, c_ne, c_lt, c_ge, c_gt, c_le, cc_eq, cc_ne, cc_lt, cc_ge, cc_gt, cc_le, rfo, aof, csum, Value.category, List.take, List.drop, List.reverse, List.reverseAux, List.map, List.sum_cons, List.sum_nil, List.cons_append, List.nil_append, Option.toList, List.mem_cons, List.not_mem_nil, List.length_cons, List.length_nil, reduceIte, Nat.reduceEqDiff, Nat.reduceAdd, Nat.reduceLeDiff, Nat.reduceLT, a_day, Nat.zero_ne_one, Nat.one_ne_zero, false_and, and_false, true_and, and_true, or_false, false_or, or_true, true_or, not_true_eq_false, not_false_eq_true, Nat.zero_add, Nat.add_zero, Nat.le_refl, Nat.lt_irrefl, Nat.zero_lt_succ, Nat.zero_le, forall_const, List.cons.injEq, Value.int.injEq, Value.ref.injEq, Value.long.injEq, and_assoc, exists_and_left, exists_eq_left']
    try simp only [forall_eq]
    refine iE3 (nn - p') _ _ _ ?_
    rw [hI3]
    exact ⟨rfl, p', rfl, rfl, hp, rfl, rfl⟩
def T_X3_valueOf (g : WG) (as : List Value) (M : MM) (Q : Option Value → MM → Prop) : Prop := ∃ a b, as = [.ref 3, .int (nI a), .int (nI b)] ∧ a ≤ b ∧ b ≤ 160 ∧ Q (some (.int (vlN (M 4) (b - a) a 0))) M
set_option maxRecDepth 100000 in
set_option maxHeartbeats 1000000 in
theorem t_X3_valueOf {l : Launch} {g : WG} (hr : Reg g 3 32) : Ct l g yX3_valueOf cX3_valueOf 5 ((Option.some FieldType.int)) 1 (T_X3_valueOf g) := by
  refine Ct.of (by decide) (fun as M Q h => ?_) (fun p e s m args below meth c as M Q h C => ?_)
  · obtain ⟨a, b, rfl, hab, hb, h⟩ := h; exact ⟨by simp, by simp [Value.category]⟩
  · obtain ⟨a, b, rfl, hab, hb, h⟩ := h
    obtain ⟨I5, hI5⟩ : ∃ I : Nat → PP, I = (fun n lv st M' => M' = M ∧ ∃ i x, lv = [(0, .ref 3), (2, .int (nI b)), (3, .int x), (4, .int (nI i))] ∧ st = [] ∧ i ≤ b ∧ n = b - i ∧ vlN (M 4) (b - i) i x = vlN (M 4) (b - a) a 0) := ⟨_, rfl⟩
    obtain ⟨E5, hE5⟩ : ∃ E : PP, E = (fun lv st M => ∃ n, I5 n lv st M) := ⟨_, rfl⟩
    have iE5 : ∀ n lv st M, I5 n lv st M → E5 lv st M := fun n lv st M h => by rw [hE5]; exact ⟨n, h⟩
    have L5 : Sj p l e 1 s m args below meth c 5 g (MQ below (cQc g Q) args s 0 0 (gA g)) 5 E5 := by
      rw [hE5]
      refine s_ex (s_loop I5 (fun K5 k5 => WX3_valueOf_5 C k5) ?_)
      intro n lv st M1 K5 hK5 hI; rw [hI5] at hI; obtain ⟨rfl, i, x, rfl, rfl, hi', rfl, he⟩ := hI
      unfold BX3_valueOf_5
      simp only [i_const, i_lconst, i_iload, i_aload, i_lload, i_istore, i_astore, i_lstore, i_iinc, i_bin, i_div, i_un, i_i2l, i_l2i, i_lbin, i_lcmp, i_if, i_icmp, i_dup, i_dup_x1, i_dup2, i_pop, i_geti, i_getr, i_getd, i_puti, i_putz, i_putd, i_iald, i_bald, i_aald, i_iast, i_bast, i_alen, i_keep, i_ret, i_retz, i_reta, i_retl, i_retv, i_callv, i_callk, i_calls, i_mm, i_copy, i_under, i_undld, i_ldcs, i_sw, q_swc0, q_swc1, q_lg0, q_lg1, q_lent0, q_lent1, lset, lset2, q_lins0, q_lins1, q_ldel0, q_ldel1, q_ldel20, q_ldel21, q_lkeep0, q_lkeep1, q_memb0, q_memb1, cat2, Nat.reduceBEq, decide_true, decide_false, decide_eq_true_eq, cond_true, cond_false, Bool.and_true, Bool.and_false, Bool.true_and, Bool.false_and, f_iadd, f_isub, f_imul, f_ishl, f_ishr, f_iushr, f_iand, f_ior, f_idiv, f_irem, f_ineg, f_i2b, f_i2s, f_ladd, f_lmul, c_eq, c_ne, c_lt, c_ge, c_gt, c_le, cc_eq, cc_ne, cc_lt, cc_ge, cc_gt, cc_le, rfo, aof, csum, Value.category, List.take, List.drop, List.reverse, List.reverseAux, List.map, List.sum_cons, List.sum_nil, List.cons_append, List.nil_append, Option.toList, List.mem_cons, List.not_mem_nil, List.length_cons, List.length_nil, reduceIte, Nat.reduceEqDiff, Nat.reduceAdd, Nat.reduceLeDiff, Nat.reduceLT, a_day, Nat.zero_ne_one, Nat.one_ne_zero, false_and, and_false, true_and, and_true, or_false, false_or, or_true, true_or, not_true_eq_false, not_false_eq_true, Nat.zero_add, Nat.add_zero, Nat.le_refl, Nat.lt_irrefl, Nat.zero_lt_succ, Nat.zero_le, forall_const, List.cons.injEq, Value.int.injEq, Value.ref.injEq, Value.long.injEq, and_assoc, exists_and_left, exists_eq_left']
      try simp only [forall_eq]
      rw [nI_leI (by omega) (by omega), nI_clamp (by omega)]
      refine ⟨fun z => ?_, fun z => ⟨r_3 hr, r_4 hr, v_4 (by omega), ?_⟩⟩
      · have : i = b := by omega
        subst this
        rw [Nat.sub_self] at he
        rw [← he] at h; exact h
      · rw [nI_1]
        refine hK5 (b - (i + 1)) _ _ _ (by omega) ?_
        rw [hI5]
        refine ⟨rfl, i + 1, _, rfl, rfl, by omega, rfl, ?_⟩
        rw [← he, show b - i = (b - (i + 1)) + 1 by omega]
        rfl
    refine s_of (fun lv st M0 hs => ?_) (WX3_valueOf_0 C L5)
    obtain ⟨rfl, rfl, rfl⟩ := hs
    unfold BX3_valueOf_0
    simp only [i_const, i_lconst, i_iload, i_aload, i_lload, i_istore, i_astore, i_lstore, i_iinc, i_bin, i_div, i_un, i_i2l, i_l2i, i_lbin, i_lcmp, i_if, i_icmp, i_dup, i_dup_x1, i_dup2, i_pop, i_geti, i_getr, i_getd, i_puti, i_putz, i_putd, i_iald, i_bald, i_aald, i_iast, i_bast, i_alen, i_keep, i_ret, i_retz, i_reta, i_retl, i_retv, i_callv, i_callk, i_calls, i_mm, i_copy, i_under, i_undld, i_ldcs, i_sw, q_swc0, q_swc1, q_lg0, q_lg1, q_lent0, q_lent1, lset, lset2, q_lins0, q_lins1, q_ldel0, q_ldel1, q_ldel20, q_ldel21, q_lkeep0, q_lkeep1, q_memb0, q_memb1, cat2, Nat.reduceBEq, decide_true, decide_false, decide_eq_true_eq, cond_true, cond_false, Bool.and_true, Bool.and_false, Bool.true_and, Bool.false_and, f_iadd, f_isub, f_imul, f_ishl, f_ishr, f_iushr, f_iand, f_ior, f_idiv, f_irem, f_ineg, f_i2b, f_i2s, f_ladd, f_lmul, c_eq, c_ne, c_lt, c_ge, c_gt, c_le, cc_eq, cc_ne, cc_lt, cc_ge, cc_gt, cc_le, rfo, aof, csum, Value.category, List.take, List.drop, List.reverse, List.reverseAux, List.map, List.sum_cons, List.sum_nil, List.cons_append, List.nil_append, Option.toList, List.mem_cons, List.not_mem_nil, List.length_cons, List.length_nil, reduceIte, Nat.reduceEqDiff, Nat.reduceAdd, Nat.reduceLeDiff, Nat.reduceLT, a_day, Nat.zero_ne_one, Nat.one_ne_zero, false_and, and_false, true_and, and_true, or_false, false_or, or_true, true_or, not_true_eq_false, not_false_eq_true, Nat.zero_add, Nat.add_zero, Nat.le_refl, Nat.lt_irrefl, Nat.zero_lt_succ, Nat.zero_le, forall_const, List.cons.injEq, Value.int.injEq, Value.ref.injEq, Value.long.injEq, and_assoc, exists_and_left, exists_eq_left']
    try simp only [forall_eq]
    refine iE5 (b - a) _ _ _ ?_
    rw [hI5]
    exact ⟨rfl, a, 0, rfl, rfl, hab, rfl, rfl⟩
def T_X3_put (g : WG) (as : List Value) (M : MM) (Q : Option Value → MM → Prop) : Prop := ∃ pp s v t, as = [.ref 3, .int pp, .int s, .int v] ∧ M 3 5 = nI t ∧ t ≤ 160 ∧ Q none (mset (mset (mset M 7 t pp) 5 t s) 6 t v)
set_option maxRecDepth 100000 in
set_option maxHeartbeats 1000000 in
theorem t_X3_put {l : Launch} {g : WG} (hr : Reg g 3 32) : Ct l g yX3_put cX3_put 4 ((Option.none : Option FieldType)) 1 (T_X3_put g) := by
  refine Ct.of (by decide) (fun as M Q h => ?_) (fun p e s m args below meth c as M Q h C => ?_)
  · obtain ⟨pp, s0, v, t, rfl, h5, ht, h⟩ := h; exact ⟨by simp, by simp [Value.category]⟩
  · obtain ⟨pp, s0, v, t, rfl, h5, ht, h⟩ := h
    refine s_of (fun lv st M0 hs => ?_) (WX3_put_0 C)
    obtain ⟨rfl, rfl, rfl⟩ := hs
    unfold BX3_put_0
    simp only [i_const, i_lconst, i_iload, i_aload, i_lload, i_istore, i_astore, i_lstore, i_iinc, i_bin, i_div, i_un, i_i2l, i_l2i, i_lbin, i_lcmp, i_if, i_icmp, i_dup, i_dup_x1, i_dup2, i_pop, i_geti, i_getr, i_getd, i_puti, i_putz, i_putd, i_iald, i_bald, i_aald, i_iast, i_bast, i_alen, i_keep, i_ret, i_retz, i_reta, i_retl, i_retv, i_callv, i_callk, i_calls, i_mm, i_copy, i_under, i_undld, i_ldcs, i_sw, q_swc0, q_swc1, q_lg0, q_lg1, q_lent0, q_lent1, lset, lset2, q_lins0, q_lins1, q_ldel0, q_ldel1, q_ldel20, q_ldel21, q_lkeep0, q_lkeep1, q_memb0, q_memb1, cat2, Nat.reduceBEq, decide_true, decide_false, decide_eq_true_eq, cond_true, cond_false, Bool.and_true, Bool.and_false, Bool.true_and, Bool.false_and, f_iadd, f_isub, f_imul, f_ishl, f_ishr, f_iushr, f_iand, f_ior, f_idiv, f_irem, f_ineg, f_i2b, f_i2s, f_ladd, f_lmul, c_eq, c_ne, c_lt, c_ge, c_gt, c_le, cc_eq, cc_ne, cc_lt, cc_ge, cc_gt, cc_le, rfo, aof, csum, Value.category, List.take, List.drop, List.reverse, List.reverseAux, List.map, List.sum_cons, List.sum_nil, List.cons_append, List.nil_append, Option.toList, List.mem_cons, List.not_mem_nil, List.length_cons, List.length_nil, reduceIte, Nat.reduceEqDiff, Nat.reduceAdd, Nat.reduceLeDiff, Nat.reduceLT, a_day, Nat.zero_ne_one, Nat.one_ne_zero, false_and, and_false, true_and, and_true, or_false, false_or, or_true, true_or, not_true_eq_false, not_false_eq_true, Nat.zero_add, Nat.add_zero, Nat.le_refl, Nat.lt_irrefl, Nat.zero_lt_succ, Nat.zero_le, forall_const, List.cons.injEq, Value.int.injEq, Value.ref.injEq, Value.long.injEq, and_assoc, exists_and_left, exists_eq_left']
    try simp only [forall_eq]
    have e1 : mset M0 7 t pp 3 5 = nI t := by rw [ms_q (by decide)]; exact h5
    have e2 : mset (mset M0 7 t pp) 5 t s0 3 5 = nI t := by rw [ms_q (by decide)]; exact e1
    have v7 : vp_in (nI t) (ln 7) := vp_in_nI (n := t) (N := 161) (by omega) (by decide)
    have v6 : vp_in (nI t) (ln 6) := vp_in_nI (n := t) (N := 161) (by omega) (by decide)
    rw [h5, nI_clamp (by omega), e1, nI_clamp (by omega), e2, nI_clamp (by omega), show (160 : Int32) = nI 160 from rfl, nI_leI (by omega) (by decide)]
    exact ⟨r_3 hr, fun _ => ⟨r_3 hr, r_3 hr, r_7 hr, v7, r_3 hr, r_3 hr, r_5 hr, v_5 (Nat.le_refl _) ht, r_3 hr, r_3 hr, r_6 hr, v6, h⟩, fun q => absurd ht q⟩
def T_X3_spelling (g : WG) (as : List Value) (M : MM) (Q : Option Value → MM → Prop) : Prop := ∃ w : Nat, as = [.int (nI w)] ∧ w < 12 ∧ Q (some (.ref (201 + w))) M
set_option maxRecDepth 100000 in
set_option maxHeartbeats 1000000 in
theorem t_X3_spelling {l : Launch} {g : WG} (hr : Reg g 3 32) : Ct l g yX3_spelling cX3_spelling 1 ((Option.some (FieldType.object "java/lang/String"))) 1 (T_X3_spelling g) := by
  refine Ct.of (by decide) (fun as M Q h => ?_) (fun p e s m args below meth c as M Q h C => ?_)
  · obtain ⟨w, rfl, hw, h⟩ := h; exact ⟨by simp, by simp [Value.category]⟩
  · obtain ⟨w, rfl, hw, h⟩ := h
    refine s_of (fun lv st M0 hs => ?_) (WX3_spelling_0 C)
    obtain ⟨rfl, rfl, rfl⟩ := hs
    unfold BX3_spelling_0
    simp only [i_const, i_lconst, i_iload, i_aload, i_lload, i_istore, i_astore, i_lstore, i_iinc, i_bin, i_div, i_un, i_i2l, i_l2i, i_lbin, i_lcmp, i_if, i_icmp, i_dup, i_dup_x1, i_dup2, i_pop, i_geti, i_getr, i_getd, i_puti, i_putz, i_putd, i_iald, i_bald, i_aald, i_iast, i_bast, i_alen, i_keep, i_ret, i_retz, i_reta, i_retl, i_retv, i_callv, i_callk, i_calls, i_mm, i_copy, i_under, i_undld, i_ldcs, i_sw, q_swc0, q_swc1, q_lg0, q_lg1, q_lent0, q_lent1, lset, lset2, q_lins0, q_lins1, q_ldel0, q_ldel1, q_ldel20, q_ldel21, q_lkeep0, q_lkeep1, q_memb0, q_memb1, cat2, Nat.reduceBEq, decide_true, decide_false, decide_eq_true_eq, cond_true, cond_false, Bool.and_true, Bool.and_false, Bool.true_and, Bool.false_and, f_iadd, f_isub, f_imul, f_ishl, f_ishr, f_iushr, f_iand, f_ior, f_idiv, f_irem, f_ineg, f_i2b, f_i2s, f_ladd, f_lmul, c_eq, c_ne, c_lt, c_ge, c_gt, c_le, cc_eq, cc_ne, cc_lt, cc_ge, cc_gt, cc_le, rfo, aof, csum, Value.category, List.take, List.drop, List.reverse, List.reverseAux, List.map, List.sum_cons, List.sum_nil, List.cons_append, List.nil_append, Option.toList, List.mem_cons, List.not_mem_nil, List.length_cons, List.length_nil, reduceIte, Nat.reduceEqDiff, Nat.reduceAdd, Nat.reduceLeDiff, Nat.reduceLT, a_day, Nat.zero_ne_one, Nat.one_ne_zero, false_and, and_false, true_and, and_true, or_false, false_or, or_true, true_or, not_true_eq_false, not_false_eq_true, Nat.zero_add, Nat.add_zero, Nat.le_refl, Nat.lt_irrefl, Nat.zero_lt_succ, Nat.zero_le, forall_const, List.cons.injEq, Value.int.injEq, Value.ref.injEq, Value.long.injEq, and_assoc, exists_and_left, exists_eq_left']
    try simp only [forall_eq]
    have z : ∀ j, j < 20 → (nI w = nI j ↔ w = j) := fun j hj => nI_eq (by omega) (by omega)
    have t : ∀ j, j < 20 → ∀ x : Int32, x = nI j → nI w = x → Q (some (.ref (201 + j))) M0 := fun j hj x hx e => by
      have := (z j hj).mp (e.trans hx)
      subst this; exact h
    refine ⟨t 0 (by decide) _ rfl, fun e0 => ⟨t 1 (by decide) _ rfl, fun e1 => ⟨t 2 (by decide) _ rfl, fun e2 => ⟨t 3 (by decide) _ rfl, fun e3 => ⟨t 4 (by decide) _ rfl, fun e4 => ⟨t 5 (by decide) _ rfl, fun e5 => ⟨t 6 (by decide) _ rfl, fun e6 => ⟨t 7 (by decide) _ rfl, fun e7 => ⟨t 8 (by decide) _ rfl, fun e8 => ⟨t 9 (by decide) _ rfl, fun e9 => ⟨t 10 (by decide) _ rfl, fun e10 => ?_⟩⟩⟩⟩⟩⟩⟩⟩⟩⟩⟩
    have n : ∀ j, j < 20 → ∀ x : Int32, x = nI j → ¬ nI w = x → ¬ w = j := fun j hj x hx e q => e (((z j hj).mpr q).trans hx.symm)
    have := n 0 (by decide) _ rfl e0
    have := n 1 (by decide) _ rfl e1
    have := n 2 (by decide) _ rfl e2
    have := n 3 (by decide) _ rfl e3
    have := n 4 (by decide) _ rfl e4
    have := n 5 (by decide) _ rfl e5
    have := n 6 (by decide) _ rfl e6
    have := n 7 (by decide) _ rfl e7
    have := n 8 (by decide) _ rfl e8
    have := n 9 (by decide) _ rfl e9
    have := n 10 (by decide) _ rfl e10
    have : w = 11 := by omega
    subst this
    exact h
def T_X3_spells (g : WG) (as : List Value) (M : MM) (Q : Option Value → MM → Prop) : Prop := ∃ a b i : Nat, as = [.ref 3, .int (nI a), .int (nI b), .ref (200 + i)] ∧ i < 13 ∧ a ≤ b ∧ b ≤ 160 ∧ Q (some (.int (b2i (spB (M 4) a b i = true)))) M
set_option maxRecDepth 100000 in
set_option maxHeartbeats 2000000 in
theorem t_X3_spells {l : Launch} {g : WG} (hr : Reg g 3 32) : Ct l g yX3_spells cX3_spells 5 ((Option.some FieldType.boolean)) 6 (T_X3_spells g) := by
  refine Ct.of (by decide) (fun as M Q h => ?_) (fun p e s m args below meth c as M Q h C => ?_)
  · obtain ⟨a, b, i, rfl, hi, hab, hb, h⟩ := h; exact ⟨by simp, by simp [Value.category]⟩
  · obtain ⟨a, b, i, rfl, hi, hab, hb, h⟩ := h
    have h46 := len_46 i hi
    obtain ⟨I15, hI15⟩ : ∃ I : Nat → PP, I = (fun n lv st M' => M' = M ∧ ∃ k, lv = [(0, .ref 3), (1, .int (nI a)), (3, .ref (200 + i)), (4, .int (nI k))] ∧ st = [] ∧ b - a = lenS.getD i 0 ∧ k ≤ lenS.getD i 0 ∧ n = lenS.getD i 0 - k ∧ ∀ q, q < k → M 4 (a + q) = (bytS.getD i []).getD q 0) := ⟨_, rfl⟩
    obtain ⟨E15, hE15⟩ : ∃ E : PP, E = (fun lv st M => ∃ n, I15 n lv st M) := ⟨_, rfl⟩
    have iE15 : ∀ n lv st M, I15 n lv st M → E15 lv st M := fun n lv st M h => by rw [hE15]; exact ⟨n, h⟩
    have L15 : Sj p l e 6 s m args below meth c 5 g (MQ below (cQc g Q) args s 0 0 (gA g)) 15 E15 := by
      rw [hE15]
      refine s_ex (s_loop I15 (fun K15 k15 => WX3_spells_15 C (t_J0_length_8abf5) (by decide) (t_J0_charAt_5068e) (by decide) k15) ?_)
      intro n lv st M1 K15 hK15 hI; rw [hI15] at hI; obtain ⟨rfl, k, rfl, rfl, hl, hk, rfl, hq⟩ := hI
      unfold BX3_spells_15
      generalize hB21 : BX3_spells_21 g Q (T_J0_length_8abf5 g) (T_J0_charAt_5068e g) K15 = B21
      simp only [T_J0_length_8abf5, T_J0_charAt_5068e, i_const, i_lconst, i_iload, i_aload, i_lload, i_istore, i_astore, i_lstore, i_iinc, i_bin, i_div, i_un, i_i2l, i_l2i, i_lbin, i_lcmp, i_if, i_icmp, i_dup, i_dup_x1, i_dup2, i_pop, i_geti, i_getr, i_getd, i_puti, i_putz, i_putd, i_iald, i_bald, i_aald, i_iast, i_bast, i_alen, i_keep, i_ret, i_retz, i_reta, i_retl, i_retv, i_callv, i_callk, i_calls, i_mm, i_copy, i_under, i_undld, i_ldcs, i_sw, q_swc0, q_swc1, q_lg0, q_lg1, q_lent0, q_lent1, lset, lset2, q_lins0, q_lins1, q_ldel0, q_ldel1, q_ldel20, q_ldel21, q_lkeep0, q_lkeep1, q_memb0, q_memb1, cat2, Nat.reduceBEq, decide_true, decide_false, decide_eq_true_eq, cond_true, cond_false, Bool.and_true, Bool.and_false, Bool.true_and, Bool.false_and, f_iadd, f_isub, f_imul, f_ishl, f_ishr, f_iushr, f_iand, f_ior, f_idiv, f_irem, f_ineg, f_i2b, f_i2s, f_ladd, f_lmul, c_eq, c_ne, c_lt, c_ge, c_gt, c_le, cc_eq, cc_ne, cc_lt, cc_ge, cc_gt, cc_le, rfo, aof, csum, Value.category, List.take, List.drop, List.reverse, List.reverseAux, List.map, List.sum_cons, List.sum_nil, List.cons_append, List.nil_append, Option.toList, List.mem_cons, List.not_mem_nil, List.length_cons, List.length_nil, reduceIte, Nat.reduceEqDiff, Nat.reduceAdd, Nat.reduceLeDiff, Nat.reduceLT, a_day, Nat.zero_ne_one, Nat.one_ne_zero, false_and, and_false, true_and, and_true, or_false, false_or, or_true, true_or, not_true_eq_false, not_false_eq_true, Nat.zero_add, Nat.add_zero, Nat.le_refl, Nat.lt_irrefl, Nat.zero_lt_succ, Nat.zero_le, forall_const, List.cons.injEq, Value.int.injEq, Value.ref.injEq, Value.long.injEq, and_assoc, exists_and_left, exists_eq_left']
      try simp only [forall_eq]
      refine ⟨⟨i, hi, rfl⟩, i, rfl, hi, ?_⟩
      subst hB21
      unfold BX3_spells_21
      generalize hB39 : BX3_spells_39 g Q (T_J0_length_8abf5 g) (T_J0_charAt_5068e g) K15 = B39
      simp only [T_J0_length_8abf5, T_J0_charAt_5068e, i_const, i_lconst, i_iload, i_aload, i_lload, i_istore, i_astore, i_lstore, i_iinc, i_bin, i_div, i_un, i_i2l, i_l2i, i_lbin, i_lcmp, i_if, i_icmp, i_dup, i_dup_x1, i_dup2, i_pop, i_geti, i_getr, i_getd, i_puti, i_putz, i_putd, i_iald, i_bald, i_aald, i_iast, i_bast, i_alen, i_keep, i_ret, i_retz, i_reta, i_retl, i_retv, i_callv, i_callk, i_calls, i_mm, i_copy, i_under, i_undld, i_ldcs, i_sw, q_swc0, q_swc1, q_lg0, q_lg1, q_lent0, q_lent1, lset, lset2, q_lins0, q_lins1, q_ldel0, q_ldel1, q_ldel20, q_ldel21, q_lkeep0, q_lkeep1, q_memb0, q_memb1, cat2, Nat.reduceBEq, decide_true, decide_false, decide_eq_true_eq, cond_true, cond_false, Bool.and_true, Bool.and_false, Bool.true_and, Bool.false_and, f_iadd, f_isub, f_imul, f_ishl, f_ishr, f_iushr, f_iand, f_ior, f_idiv, f_irem, f_ineg, f_i2b, f_i2s, f_ladd, f_lmul, c_eq, c_ne, c_lt, c_ge, c_gt, c_le, cc_eq, cc_ne, cc_lt, cc_ge, cc_gt, cc_le, rfo, aof, csum, Value.category, List.take, List.drop, List.reverse, List.reverseAux, List.map, List.sum_cons, List.sum_nil, List.cons_append, List.nil_append, Option.toList, List.mem_cons, List.not_mem_nil, List.length_cons, List.length_nil, reduceIte, Nat.reduceEqDiff, Nat.reduceAdd, Nat.reduceLeDiff, Nat.reduceLT, a_day, Nat.zero_ne_one, Nat.one_ne_zero, false_and, and_false, true_and, and_true, or_false, false_or, or_true, true_or, not_true_eq_false, not_false_eq_true, Nat.zero_add, Nat.add_zero, Nat.le_refl, Nat.lt_irrefl, Nat.zero_lt_succ, Nat.zero_le, forall_const, List.cons.injEq, Value.int.injEq, Value.ref.injEq, Value.long.injEq, and_assoc, exists_and_left, exists_eq_left']
      try simp only [forall_eq]
      rw [nI_leI (by omega) (by omega)]
      refine ⟨fun z => ?_, fun z => ?_⟩
      · have : k = lenS.getD i 0 := by omega
        subst this
        rwa [b2i_t] at h
        unfold spB
        rw [decide_eq_true hl, Bool.true_and, List.all_eq_true]
        intro q hq'
        exact decide_eq_true (hq q (List.mem_range.mp hq'))
      · rw [nI_add, nI_clamp (by omega)]
        refine ⟨r_3 hr, r_4 hr, v_4 (by omega), ⟨i, hi, rfl⟩, i, rfl, k, rfl, hi, by omega, ?_⟩
        subst hB39
        unfold BX3_spells_39
        simp only [T_J0_length_8abf5, T_J0_charAt_5068e, i_const, i_lconst, i_iload, i_aload, i_lload, i_istore, i_astore, i_lstore, i_iinc, i_bin, i_div, i_un, i_i2l, i_l2i, i_lbin, i_lcmp, i_if, i_icmp, i_dup, i_dup_x1, i_dup2, i_pop, i_geti, i_getr, i_getd, i_puti, i_putz, i_putd, i_iald, i_bald, i_aald, i_iast, i_bast, i_alen, i_keep, i_ret, i_retz, i_reta, i_retl, i_retv, i_callv, i_callk, i_calls, i_mm, i_copy, i_under, i_undld, i_ldcs, i_sw, q_swc0, q_swc1, q_lg0, q_lg1, q_lent0, q_lent1, lset, lset2, q_lins0, q_lins1, q_ldel0, q_ldel1, q_ldel20, q_ldel21, q_lkeep0, q_lkeep1, q_memb0, q_memb1, cat2, Nat.reduceBEq, decide_true, decide_false, decide_eq_true_eq, cond_true, cond_false, Bool.and_true, Bool.and_false, Bool.true_and, Bool.false_and, f_iadd, f_isub, f_imul, f_ishl, f_ishr, f_iushr, f_iand, f_ior, f_idiv, f_irem, f_ineg, f_i2b, f_i2s, f_ladd, f_lmul, c_eq, c_ne, c_lt, c_ge, c_gt, c_le, cc_eq, cc_ne, cc_lt, cc_ge, cc_gt, cc_le, rfo, aof, csum, Value.category, List.take, List.drop, List.reverse, List.reverseAux, List.map, List.sum_cons, List.sum_nil, List.cons_append, List.nil_append, Option.toList, List.mem_cons, List.not_mem_nil, List.length_cons, List.length_nil, reduceIte, Nat.reduceEqDiff, Nat.reduceAdd, Nat.reduceLeDiff, Nat.reduceLT, a_day, Nat.zero_ne_one, Nat.one_ne_zero, false_and, and_false, true_and, and_true, or_false, false_or, or_true, true_or, not_true_eq_false, not_false_eq_true, Nat.zero_add, Nat.add_zero, Nat.le_refl, Nat.lt_irrefl, Nat.zero_lt_succ, Nat.zero_le, forall_const, List.cons.injEq, Value.int.injEq, Value.ref.injEq, Value.long.injEq, and_assoc, exists_and_left, exists_eq_left']
        try simp only [forall_eq]
        rw [nI_1]
        refine ⟨fun y => ?_, fun y => ?_⟩
        · refine hK15 (lenS.getD i 0 - (k + 1)) _ _ _ (by omega) ?_
          rw [hI15]
          refine ⟨rfl, k + 1, rfl, rfl, hl, by omega, rfl, fun q hq' => ?_⟩
          by_cases e : q = k
          · subst e; exact y
          · exact hq q (by omega)
        · rwa [b2i_f] at h
          unfold spB
          rw [Bool.and_eq_true, List.all_eq_true]
          intro q
          exact y (of_decide_eq_true (q.2 k (List.mem_range.mpr (by omega))))
    refine s_of (fun lv st M0 hs => ?_) (WX3_spells_0 C (t_J0_length_8abf5) (by decide) (t_J0_charAt_5068e) (by decide) L15)
    obtain ⟨rfl, rfl, rfl⟩ := hs
    unfold BX3_spells_0
    generalize hB7 : BX3_spells_7 g Q (T_J0_length_8abf5 g) (T_J0_charAt_5068e g) E15 = B7
    simp only [T_J0_length_8abf5, T_J0_charAt_5068e, i_const, i_lconst, i_iload, i_aload, i_lload, i_istore, i_astore, i_lstore, i_iinc, i_bin, i_div, i_un, i_i2l, i_l2i, i_lbin, i_lcmp, i_if, i_icmp, i_dup, i_dup_x1, i_dup2, i_pop, i_geti, i_getr, i_getd, i_puti, i_putz, i_putd, i_iald, i_bald, i_aald, i_iast, i_bast, i_alen, i_keep, i_ret, i_retz, i_reta, i_retl, i_retv, i_callv, i_callk, i_calls, i_mm, i_copy, i_under, i_undld, i_ldcs, i_sw, q_swc0, q_swc1, q_lg0, q_lg1, q_lent0, q_lent1, lset, lset2, q_lins0, q_lins1, q_ldel0, q_ldel1, q_ldel20, q_ldel21, q_lkeep0, q_lkeep1, q_memb0, q_memb1, cat2, Nat.reduceBEq, decide_true, decide_false, decide_eq_true_eq, cond_true, cond_false, Bool.and_true, Bool.and_false, Bool.true_and, Bool.false_and, f_iadd, f_isub, f_imul, f_ishl, f_ishr, f_iushr, f_iand, f_ior, f_idiv, f_irem, f_ineg, f_i2b, f_i2s, f_ladd, f_lmul, c_eq, c_ne, c_lt, c_ge, c_gt, c_le, cc_eq, cc_ne, cc_lt, cc_ge, cc_gt, cc_le, rfo, aof, csum, Value.category, List.take, List.drop, List.reverse, List.reverseAux, List.map, List.sum_cons, List.sum_nil, List.cons_append, List.nil_append, Option.toList, List.mem_cons, List.not_mem_nil, List.length_cons, List.length_nil, reduceIte, Nat.reduceEqDiff, Nat.reduceAdd, Nat.reduceLeDiff, Nat.reduceLT, a_day, Nat.zero_ne_one, Nat.one_ne_zero, false_and, and_false, true_and, and_true, or_false, false_or, or_true, true_or, not_true_eq_false, not_false_eq_true, Nat.zero_add, Nat.add_zero, Nat.le_refl, Nat.lt_irrefl, Nat.zero_lt_succ, Nat.zero_le, forall_const, List.cons.injEq, Value.int.injEq, Value.ref.injEq, Value.long.injEq, and_assoc, exists_and_left, exists_eq_left']
    try simp only [forall_eq]
    rw [pk_sub hab]
    refine ⟨⟨i, hi, rfl⟩, i, rfl, hi, ?_⟩
    subst hB7
    unfold BX3_spells_7
    simp only [T_J0_length_8abf5, T_J0_charAt_5068e, i_const, i_lconst, i_iload, i_aload, i_lload, i_istore, i_astore, i_lstore, i_iinc, i_bin, i_div, i_un, i_i2l, i_l2i, i_lbin, i_lcmp, i_if, i_icmp, i_dup, i_dup_x1, i_dup2, i_pop, i_geti, i_getr, i_getd, i_puti, i_putz, i_putd, i_iald, i_bald, i_aald, i_iast, i_bast, i_alen, i_keep, i_ret, i_retz, i_reta, i_retl, i_retv, i_callv, i_callk, i_calls, i_mm, i_copy, i_under, i_undld, i_ldcs, i_sw, q_swc0, q_swc1, q_lg0, q_lg1, q_lent0, q_lent1, lset, lset2, q_lins0, q_lins1, q_ldel0, q_ldel1, q_ldel20, q_ldel21, q_lkeep0, q_lkeep1, q_memb0, q_memb1, cat2, Nat.reduceBEq, decide_true, decide_false, decide_eq_true_eq, cond_true, cond_false, Bool.and_true, Bool.and_false, Bool.true_and, Bool.false_and, f_iadd, f_isub, f_imul, f_ishl, f_ishr, f_iushr, f_iand, f_ior, f_idiv, f_irem, f_ineg, f_i2b, f_i2s, f_ladd, f_lmul, c_eq, c_ne, c_lt, c_ge, c_gt, c_le, cc_eq, cc_ne, cc_lt, cc_ge, cc_gt, cc_le, rfo, aof, csum, Value.category, List.take, List.drop, List.reverse, List.reverseAux, List.map, List.sum_cons, List.sum_nil, List.cons_append, List.nil_append, Option.toList, List.mem_cons, List.not_mem_nil, List.length_cons, List.length_nil, reduceIte, Nat.reduceEqDiff, Nat.reduceAdd, Nat.reduceLeDiff, Nat.reduceLT, a_day, Nat.zero_ne_one, Nat.one_ne_zero, false_and, and_false, true_and, and_true, or_false, false_or, or_true, true_or, not_true_eq_false, not_false_eq_true, Nat.zero_add, Nat.add_zero, Nat.le_refl, Nat.lt_irrefl, Nat.zero_lt_succ, Nat.zero_le, forall_const, List.cons.injEq, Value.int.injEq, Value.ref.injEq, Value.long.injEq, and_assoc, exists_and_left, exists_eq_left']
    try simp only [forall_eq]
    rw [nI_eq (by omega) (by omega)]
    refine ⟨fun y => iE15 (lenS.getD i 0 - 0) _ _ _ ?_, fun y => ?_⟩
    · rw [hI15]
      exact ⟨rfl, 0, rfl, rfl, y, by omega, rfl, fun q hq => absurd hq (by omega)⟩
    · rwa [b2i_f] at h
      unfold spB
      rw [decide_eq_false y]
      simp
def T_X3_putWord (g : WG) (as : List Value) (M : MM) (Q : Option Value → MM → Prop) : Prop := ∃ a b t, as = [.ref 3, .int (nI a), .int (nI b)] ∧ a ≤ b ∧ b ≤ 160 ∧ M 3 5 = nI t ∧ t ≤ 160 ∧ Q none (mset (mset (mset M 7 t (nI a)) 5 t (if wix (M 4) a b < 6 then 3 else if wix (M 4) a b < 12 then nI (wix (M 4) a b - 2) else 1)) 6 t (if wix (M 4) a b < 6 then nI (wix (M 4) a b) else 0))
set_option maxRecDepth 100000 in
set_option maxHeartbeats 1000000 in
theorem t_X3_putWord {l : Launch} {g : WG} (hr : Reg g 3 32) : Ct l g yX3_putWord cX3_putWord 4 ((Option.none : Option FieldType)) 7 (T_X3_putWord g) := by
  refine Ct.of (by decide) (fun as M Q h => ?_) (fun p e s m args below meth c as M Q h C => ?_)
  · obtain ⟨a, b, t, rfl, hab, hb, h5, ht, h⟩ := h; exact ⟨by simp, by simp [Value.category]⟩
  · obtain ⟨a, b, t, rfl, hab, hb, h5, ht, h⟩ := h
    obtain ⟨I2, hI2⟩ : ∃ I : Nat → PP, I = (fun n lv st M' => M' = M ∧ ∃ w, lv = [(0, .ref 3), (1, .int (nI a)), (2, .int (nI b)), (3, .int (nI w))] ∧ st = [] ∧ w ≤ 12 ∧ n = 12 - w ∧ wfd (fun w => spB (M 4) a b (w + 1)) (12 - w) w = wix (M 4) a b) := ⟨_, rfl⟩
    obtain ⟨E2, hE2⟩ : ∃ E : PP, E = (fun lv st M => ∃ n, I2 n lv st M) := ⟨_, rfl⟩
    have iE2 : ∀ n lv st M, I2 n lv st M → E2 lv st M := fun n lv st M h => by rw [hE2]; exact ⟨n, h⟩
    have L2 : Sj p l e 7 s m args below meth c 4 g (MQ below (cQc g Q) args s 0 0 (gA g)) 2 E2 := by
      rw [hE2]
      refine s_ex (s_loop I2 (fun K2 k2 => WX3_putWord_2 C (t_X3_spelling hr) (by decide) (t_X3_spells hr) (by decide) (t_X3_put hr) (by decide) k2) ?_)
      intro n lv st M1 K2 hK2 hI; rw [hI2] at hI; obtain ⟨rfl, w, rfl, rfl, hw, rfl, he⟩ := hI
      unfold BX3_putWord_2
      generalize hB15 : BX3_putWord_15 g Q (T_X3_spelling g) (T_X3_spells g) (T_X3_put g) K2 = B15
      generalize hB27 : BX3_putWord_27 g Q (T_X3_spelling g) (T_X3_spells g) (T_X3_put g) K2 = B27
      simp only [T_X3_spelling, T_X3_spells, T_X3_put, i_const, i_lconst, i_iload, i_aload, i_lload, i_istore, i_astore, i_lstore, i_iinc, i_bin, i_div, i_un, i_i2l, i_l2i, i_lbin, i_lcmp, i_if, i_icmp, i_dup, i_dup_x1, i_dup2, i_pop, i_geti, i_getr, i_getd, i_puti, i_putz, i_putd, i_iald, i_bald, i_aald, i_iast, i_bast, i_alen, i_keep, i_ret, i_retz, i_reta, i_retl, i_retv, i_callv, i_callk, i_calls, i_mm, i_copy, i_under, i_undld, i_ldcs, i_sw, q_swc0, q_swc1, q_lg0, q_lg1, q_lent0, q_lent1, lset, lset2, q_lins0, q_lins1, q_ldel0, q_ldel1, q_ldel20, q_ldel21, q_lkeep0, q_lkeep1, q_memb0, q_memb1, cat2, Nat.reduceBEq, decide_true, decide_false, decide_eq_true_eq, cond_true, cond_false, Bool.and_true, Bool.and_false, Bool.true_and, Bool.false_and, f_iadd, f_isub, f_imul, f_ishl, f_ishr, f_iushr, f_iand, f_ior, f_idiv, f_irem, f_ineg, f_i2b, f_i2s, f_ladd, f_lmul, c_eq, c_ne, c_lt, c_ge, c_gt, c_le, cc_eq, cc_ne, cc_lt, cc_ge, cc_gt, cc_le, rfo, aof, csum, Value.category, List.take, List.drop, List.reverse, List.reverseAux, List.map, List.sum_cons, List.sum_nil, List.cons_append, List.nil_append, Option.toList, List.mem_cons, List.not_mem_nil, List.length_cons, List.length_nil, reduceIte, Nat.reduceEqDiff, Nat.reduceAdd, Nat.reduceLeDiff, Nat.reduceLT, a_day, Nat.zero_ne_one, Nat.one_ne_zero, false_and, and_false, true_and, and_true, or_false, false_or, or_true, true_or, not_true_eq_false, not_false_eq_true, Nat.zero_add, Nat.add_zero, Nat.le_refl, Nat.lt_irrefl, Nat.zero_lt_succ, Nat.zero_le, forall_const, List.cons.injEq, Value.int.injEq, Value.ref.injEq, Value.long.injEq, and_assoc, exists_and_left, exists_eq_left']
      try simp only [forall_eq]
      have go : wix (M1 4) a b = w → BX3_putWord_27 g Q (T_X3_spelling g) (T_X3_spells g) (T_X3_put g) K2 [(0, .ref 3), (1, .int (nI a)), (2, .int (nI b)), (3, .int (nI w))] [] M1 := by
        intro e
        rw [e] at h
        unfold BX3_putWord_27
        simp only [T_X3_put, i_const, i_lconst, i_iload, i_aload, i_lload, i_istore, i_astore, i_lstore, i_iinc, i_bin, i_div, i_un, i_i2l, i_l2i, i_lbin, i_lcmp, i_if, i_icmp, i_dup, i_dup_x1, i_dup2, i_pop, i_geti, i_getr, i_getd, i_puti, i_putz, i_putd, i_iald, i_bald, i_aald, i_iast, i_bast, i_alen, i_keep, i_ret, i_retz, i_reta, i_retl, i_retv, i_callv, i_callk, i_calls, i_mm, i_copy, i_under, i_undld, i_ldcs, i_sw, q_swc0, q_swc1, q_lg0, q_lg1, q_lent0, q_lent1, lset, lset2, q_lins0, q_lins1, q_ldel0, q_ldel1, q_ldel20, q_ldel21, q_lkeep0, q_lkeep1, q_memb0, q_memb1, cat2, Nat.reduceBEq, decide_true, decide_false, decide_eq_true_eq, cond_true, cond_false, Bool.and_true, Bool.and_false, Bool.true_and, Bool.false_and, f_iadd, f_isub, f_imul, f_ishl, f_ishr, f_iushr, f_iand, f_ior, f_idiv, f_irem, f_ineg, f_i2b, f_i2s, f_ladd, f_lmul, c_eq, c_ne, c_lt, c_ge, c_gt, c_le, cc_eq, cc_ne, cc_lt, cc_ge, cc_gt, cc_le, rfo, aof, csum, Value.category, List.take, List.drop, List.reverse, List.reverseAux, List.map, List.sum_cons, List.sum_nil, List.cons_append, List.nil_append, Option.toList, List.mem_cons, List.not_mem_nil, List.length_cons, List.length_nil, reduceIte, Nat.reduceEqDiff, Nat.reduceAdd, Nat.reduceLeDiff, Nat.reduceLT, a_day, Nat.zero_ne_one, Nat.one_ne_zero, false_and, and_false, true_and, and_true, or_false, false_or, or_true, true_or, not_true_eq_false, not_false_eq_true, Nat.zero_add, Nat.add_zero, Nat.le_refl, Nat.lt_irrefl, Nat.zero_lt_succ, Nat.zero_le, forall_const, List.cons.injEq, Value.int.injEq, Value.ref.injEq, Value.long.injEq, and_assoc, exists_and_left, exists_eq_left', forall_eq]
        rw [show (6 : Int32) = nI 6 from rfl, show (12 : Int32) = nI 12 from rfl, nI_leI (a := 6) (by decide) (by omega), nI_leI (a := 12) (by decide) (by omega)]
        refine ⟨fun y => ⟨fun u => ⟨(r_3 hr).1, (r_3 hr).2.1, t, h5, ht, ?_⟩, fun u => ⟨(r_3 hr).1, (r_3 hr).2.1, t, h5, ht, ?_⟩⟩, fun y => ⟨(r_3 hr).1, (r_3 hr).2.1, t, h5, ht, ?_⟩⟩
        · rw [if_neg (by omega), if_neg (by omega), if_neg (by omega)] at h; exact h
        · rw [if_neg (by omega), if_pos (by omega), if_neg (by omega)] at h
          rw [show (4 : Int32) = nI 4 from rfl, nI_add, pk_sub (by omega), show 4 + w - 6 = w - 2 by omega]
          exact h
        · rw [if_pos (by omega), if_pos (by omega)] at h; exact h
      rw [show (12 : Int32) = nI 12 from rfl, nI_leI (a := 12) (by decide) (by omega)]
      refine ⟨fun z => ?_, fun z => ⟨w, rfl, by omega, ?_⟩⟩
      · have : w = 12 := by omega
        subst this
        subst hB27; exact go he.symm
      · subst hB15
        unfold BX3_putWord_15
        generalize hB18 : BX3_putWord_18 g Q (T_X3_spelling g) (T_X3_spells g) (T_X3_put g) K2 = B18
        simp only [T_X3_spelling, T_X3_spells, T_X3_put, i_const, i_lconst, i_iload, i_aload, i_lload, i_istore, i_astore, i_lstore, i_iinc, i_bin, i_div, i_un, i_i2l, i_l2i, i_lbin, i_lcmp, i_if, i_icmp, i_dup, i_dup_x1, i_dup2, i_pop, i_geti, i_getr, i_getd, i_puti, i_putz, i_putd, i_iald, i_bald, i_aald, i_iast, i_bast, i_alen, i_keep, i_ret, i_retz, i_reta, i_retl, i_retv, i_callv, i_callk, i_calls, i_mm, i_copy, i_under, i_undld, i_ldcs, i_sw, q_swc0, q_swc1, q_lg0, q_lg1, q_lent0, q_lent1, lset, lset2, q_lins0, q_lins1, q_ldel0, q_ldel1, q_ldel20, q_ldel21, q_lkeep0, q_lkeep1, q_memb0, q_memb1, cat2, Nat.reduceBEq, decide_true, decide_false, decide_eq_true_eq, cond_true, cond_false, Bool.and_true, Bool.and_false, Bool.true_and, Bool.false_and, f_iadd, f_isub, f_imul, f_ishl, f_ishr, f_iushr, f_iand, f_ior, f_idiv, f_irem, f_ineg, f_i2b, f_i2s, f_ladd, f_lmul, c_eq, c_ne, c_lt, c_ge, c_gt, c_le, cc_eq, cc_ne, cc_lt, cc_ge, cc_gt, cc_le, rfo, aof, csum, Value.category, List.take, List.drop, List.reverse, List.reverseAux, List.map, List.sum_cons, List.sum_nil, List.cons_append, List.nil_append, Option.toList, List.mem_cons, List.not_mem_nil, List.length_cons, List.length_nil, reduceIte, Nat.reduceEqDiff, Nat.reduceAdd, Nat.reduceLeDiff, Nat.reduceLT, a_day, Nat.zero_ne_one, Nat.one_ne_zero, false_and, and_false, true_and, and_true, or_false, false_or, or_true, true_or, not_true_eq_false, not_false_eq_true, Nat.zero_add, Nat.add_zero, Nat.le_refl, Nat.lt_irrefl, Nat.zero_lt_succ, Nat.zero_le, forall_const, List.cons.injEq, Value.int.injEq, Value.ref.injEq, Value.long.injEq, and_assoc, exists_and_left, exists_eq_left']
        try simp only [forall_eq]
        refine ⟨(r_3 hr).1, (r_3 hr).2.1, a, rfl, b, rfl, w + 1, by rw [Nat.add_comm w 1, ← Nat.add_assoc], by omega, hab, hb, ?_⟩
        rw [show 12 - w = (12 - (w + 1)) + 1 by omega] at he
        simp only [wfd] at he
        subst hB18
        unfold BX3_putWord_18
        generalize hB27 : BX3_putWord_27 g Q (T_X3_spelling g) (T_X3_spells g) (T_X3_put g) K2 = B27
        simp only [T_X3_spelling, T_X3_spells, T_X3_put, i_const, i_lconst, i_iload, i_aload, i_lload, i_istore, i_astore, i_lstore, i_iinc, i_bin, i_div, i_un, i_i2l, i_l2i, i_lbin, i_lcmp, i_if, i_icmp, i_dup, i_dup_x1, i_dup2, i_pop, i_geti, i_getr, i_getd, i_puti, i_putz, i_putd, i_iald, i_bald, i_aald, i_iast, i_bast, i_alen, i_keep, i_ret, i_retz, i_reta, i_retl, i_retv, i_callv, i_callk, i_calls, i_mm, i_copy, i_under, i_undld, i_ldcs, i_sw, q_swc0, q_swc1, q_lg0, q_lg1, q_lent0, q_lent1, lset, lset2, q_lins0, q_lins1, q_ldel0, q_ldel1, q_ldel20, q_ldel21, q_lkeep0, q_lkeep1, q_memb0, q_memb1, cat2, Nat.reduceBEq, decide_true, decide_false, decide_eq_true_eq, cond_true, cond_false, Bool.and_true, Bool.and_false, Bool.true_and, Bool.false_and, f_iadd, f_isub, f_imul, f_ishl, f_ishr, f_iushr, f_iand, f_ior, f_idiv, f_irem, f_ineg, f_i2b, f_i2s, f_ladd, f_lmul, c_eq, c_ne, c_lt, c_ge, c_gt, c_le, cc_eq, cc_ne, cc_lt, cc_ge, cc_gt, cc_le, rfo, aof, csum, Value.category, List.take, List.drop, List.reverse, List.reverseAux, List.map, List.sum_cons, List.sum_nil, List.cons_append, List.nil_append, Option.toList, List.mem_cons, List.not_mem_nil, List.length_cons, List.length_nil, reduceIte, Nat.reduceEqDiff, Nat.reduceAdd, Nat.reduceLeDiff, Nat.reduceLT, a_day, Nat.zero_ne_one, Nat.one_ne_zero, false_and, and_false, true_and, and_true, or_false, false_or, or_true, true_or, not_true_eq_false, not_false_eq_true, Nat.zero_add, Nat.add_zero, Nat.le_refl, Nat.lt_irrefl, Nat.zero_lt_succ, Nat.zero_le, forall_const, List.cons.injEq, Value.int.injEq, Value.ref.injEq, Value.long.injEq, and_assoc, exists_and_left, exists_eq_left']
        try simp only [forall_eq]
        refine ⟨fun y => ?_, fun y => ?_⟩
        · have y := b2t y
          rw [if_pos y] at he
          subst hB27; exact go he.symm
        · have y := b2n (Decidable.not_not.mp y)
          rw [if_neg y] at he
          rw [nI_1]
          refine hK2 (12 - (w + 1)) _ _ _ (by omega) ?_
          rw [hI2]
          exact ⟨rfl, w + 1, rfl, rfl, by omega, rfl, he⟩
      
    refine s_of (fun lv st M0 hs => ?_) (WX3_putWord_0 C (t_X3_spelling hr) (by decide) (t_X3_spells hr) (by decide) (t_X3_put hr) (by decide) L2)
    obtain ⟨rfl, rfl, rfl⟩ := hs
    unfold BX3_putWord_0
    simp only [T_X3_spelling, T_X3_spells, T_X3_put, i_const, i_lconst, i_iload, i_aload, i_lload, i_istore, i_astore, i_lstore, i_iinc, i_bin, i_div, i_un, i_i2l, i_l2i, i_lbin, i_lcmp, i_if, i_icmp, i_dup, i_dup_x1, i_dup2, i_pop, i_geti, i_getr, i_getd, i_puti, i_putz, i_putd, i_iald, i_bald, i_aald, i_iast, i_bast, i_alen, i_keep, i_ret, i_retz, i_reta, i_retl, i_retv, i_callv, i_callk, i_calls, i_mm, i_copy, i_under, i_undld, i_ldcs, i_sw, q_swc0, q_swc1, q_lg0, q_lg1, q_lent0, q_lent1, lset, lset2, q_lins0, q_lins1, q_ldel0, q_ldel1, q_ldel20, q_ldel21, q_lkeep0, q_lkeep1, q_memb0, q_memb1, cat2, Nat.reduceBEq, decide_true, decide_false, decide_eq_true_eq, cond_true, cond_false, Bool.and_true, Bool.and_false, Bool.true_and, Bool.false_and, f_iadd, f_isub, f_imul, f_ishl, f_ishr, f_iushr, f_iand, f_ior, f_idiv, f_irem, f_ineg, f_i2b, f_i2s, f_ladd, f_lmul, c_eq, c_ne, c_lt, c_ge, c_gt, c_le, cc_eq, cc_ne, cc_lt, cc_ge, cc_gt, cc_le, rfo, aof, csum, Value.category, List.take, List.drop, List.reverse, List.reverseAux, List.map, List.sum_cons, List.sum_nil, List.cons_append, List.nil_append, Option.toList, List.mem_cons, List.not_mem_nil, List.length_cons, List.length_nil, reduceIte, Nat.reduceEqDiff, Nat.reduceAdd, Nat.reduceLeDiff, Nat.reduceLT, a_day, Nat.zero_ne_one, Nat.one_ne_zero, false_and, and_false, true_and, and_true, or_false, false_or, or_true, true_or, not_true_eq_false, not_false_eq_true, Nat.zero_add, Nat.add_zero, Nat.le_refl, Nat.lt_irrefl, Nat.zero_lt_succ, Nat.zero_le, forall_const, List.cons.injEq, Value.int.injEq, Value.ref.injEq, Value.long.injEq, and_assoc, exists_and_left, exists_eq_left']
    try simp only [forall_eq]
    refine iE2 (12 - 0) _ _ _ ?_
    rw [hI2]
    exact ⟨rfl, 0, rfl, rfl, by omega, rfl, rfl⟩
