/-! ===== the class reads a text ===== -/
theorem dig_n {c : Int32} (h : dig c = true) : ∃ b, 48 ≤ b ∧ b ≤ 57 ∧ c = nI b := by
  obtain ⟨h1, h2⟩ := of_decide_eq_true h
  obtain ⟨k, hk, rfl⟩ := nI_of (x := c) (i_not_lt.mpr (by rw [i_le] at h1 ⊢; exact Int.le_trans (by decide) h1))
  exact ⟨k, (nI_leI (a := 48) (by decide) hk).mp h1, (nI_leI (b := 57) hk (by decide)).mp h2, rfl⟩
theorem vlN_b {B : Nat → Int32} : ∀ k p x, k ≤ 4 → x < 10 ^ (4 - k) → (∀ q, p ≤ q → q < p + k → dig (B q) = true) → isN (vlN B k p (nI x)) 10000
  | 0, p, x, _, hx, _ => ⟨x, hx, rfl⟩
  | k + 1, p, x, hk, hx, hd => by
    obtain ⟨b, h1, h2, e⟩ := dig_n (hd p (Nat.le_refl _) (by omega))
    simp only [vlN]
    rw [e, show (10 : Int32) = nI 10 from rfl, pk_mul, nI_add, show (48 : Int32) = nI 48 from rfl, pk_sub (by omega)]
    refine vlN_b k (p + 1) _ (by omega) ?_ (fun q h1 h2 => hd q (by omega) (by omega))
    rw [show 4 - k = (4 - (k + 1)) + 1 by omega, Nat.pow_succ]
    omega
theorem tkS_2 {B : Nat → Int32} {n p : Nat} (h : p < n) (e : tkS B n p = 2) : isN (tkV B n p) 10000 := by
  have hs : ∀ x : Int32, sig x = true → ¬ x = 2 := by
    intro x h q
    subst q
    exact absurd h (by decide)
  have hw : ∀ w, w < 12 → 6 ≤ w → ¬ nI (w - 2) = 2 := by decide
  unfold tkS at e
  unfold tkV
  split at e
  · split at e
    · exact absurd e (by decide)
    · split at e
      · exact absurd e (hw _ (by assumption) (by omega))
      · exact absurd e (by decide)
  · next hl =>
    split at e
    · next hd =>
      rw [if_neg hl, if_pos hd]
      split at e
      · exact absurd e (by decide)
      · next h4 =>
        have ee : tkE B n p = rnE dig B (n - p) p := by unfold tkE; rw [if_neg hl, if_pos hd]
        have := tkE_le (B := B) h
        refine vlN_b (min (tkE B n p) (p + 4) - p) p 0 (by omega) (Nat.pow_pos (by decide)) (fun q h1 h2 => ?_)
        refine rnE_in dig B (n - p) p q h1 ?_
        rw [← ee]
        have := Nat.min_le_left (tkE B n p) (p + 4)
        omega
    · split at e
      · exact absurd e (hs _ (by assumption))
      · exact absurd e (by decide)
theorem tkS_3 {B : Nat → Int32} {n p : Nat} (e : tkS B n p = 3) : isN (tkV B n p) 6 := by
  have hs : ∀ x : Int32, sig x = true → ¬ x = 3 := by
    intro x h q
    subst q
    exact absurd h (by decide)
  have hw : ∀ w, w < 12 → 6 ≤ w → ¬ nI (w - 2) = 3 := by decide
  unfold tkS at e
  unfold tkV
  split at e
  · next hl =>
    split at e
    · next h6 => rw [if_pos hl, if_pos h6]; exact ⟨_, h6, rfl⟩
    · split at e
      · exact absurd e (hw _ (by assumption) (by omega))
      · exact absurd e (by decide)
  · split at e
    · split at e
      · exact absurd e (by decide)
      · exact absurd e (by decide)
    · split at e
      · exact absurd e (hs _ (by assumption))
      · exact absurd e (by decide)
theorem TF.TPm {B : Nat → Int32} {n m : Nat} {M : MM} (h : TF B n m M) (hm : m ≤ n) (hn : n ≤ 160) (h5 : M 3 5 = nI m) (h50 : M 5 m = 0) (h7 : M 7 m = nI n) : TPm M m := by
  refine ⟨h5, by omega, h50, fun k hk => ?_, fun k hk => ?_⟩
  · obtain ⟨a, b, c, d⟩ := h k hk
    rw [c, d]
    exact ⟨tkS_2 a, tkS_3⟩
  · by_cases e : k = m
    · subst e; exact ⟨n, by omega, h7⟩
    · obtain ⟨a, b, c, d⟩ := h k (by omega)
      exact ⟨_, by omega, b⟩
/-- the streams of sorts and values that a tape's bytes make -/
def STR (B : Nat → Int32) (n m : Nat) (S V : SV) : Prop := m ≤ n ∧ pl B n m = n ∧ S m = 0 ∧ V m = 0 ∧ ∀ k, k < m → pl B n k < n ∧ S k = tkS B n (pl B n k) ∧ V k = tkV B n (pl B n k)
/-- a part that is good from i to j, with its codes -/
def PG (S V : SV) (p i j : Nat) (c : List Int32) : Prop := S i = nI (4 + p) ∧ ∃ j0 x, j = j0 + 1 ∧ i + 1 ≤ j0 ∧ stp S V (j0 - (i + 1)) (i + 1) ([], [], false, false, true) = some x ∧ x.2.2.2.1 = true ∧ lay 1 x.1 x.2.1 = (c, []) ∧ S j0 = 59
/-- a part at fault: at k -/
def PF (S V : SV) (p i k : Nat) : Prop := (k = i ∧ ¬ S i = nI (4 + p)) ∨ (S i = nI (4 + p) ∧ i + 1 ≤ k ∧ ∃ x, stp S V (k - (i + 1)) (i + 1) ([], [], false, false, true) = some x ∧ flr (S k) (V k) x)
def PGs (S V : SV) : Nat → (Nat → List Int32) → Nat → Prop
  | 0, _, j => j = 0
  | p + 1, cs, j => ∃ i, PGs S V p cs i ∧ PG S V p i j (cs p)
def FlS (S V : SV) (k : Nat) : Prop := (∃ p i cs, p < 3 ∧ PGs S V p cs i ∧ PF S V p i k) ∨ (∃ cs, PGs S V 3 cs k ∧ ¬ S k = 0)
def GdS (S V : SV) (cs : Nat → List Int32) : Prop := ∃ j, PGs S V 3 cs j ∧ S j = 0
theorem PGs_e {S V : SV} {cs cs' : Nat → List Int32} : ∀ {p j}, (∀ q, q < p → cs' q = cs q) → PGs S V p cs j → PGs S V p cs' j
  | 0, _, _, h => h
  | p + 1, j, he, ⟨i, h1, h2⟩ => ⟨i, PGs_e (fun q hq => he q (by omega)) h1, by rw [he p (by omega)]; exact h2⟩
def T_X4_empty (g : WG) (as : List Value) (M : MM) (Q : Option Value → MM → Prop) : Prop := ∃ (r : Nat), as = [.ref r] ∧ isT r ∧ ∀ M', Sm (fun a b => (a = r ∧ b = 4) ∨ a = r + 2) M M' → M' r 4 = 0 → Q none M'
set_option maxRecDepth 100000 in
set_option maxHeartbeats 1000000 in
theorem t_X4_empty {l : Launch} {g : WG} (hr : Reg g 3 32) : Ct l g yX4_empty cX4_empty 1 ((Option.none : Option FieldType)) 2 (T_X4_empty g) := by
  refine Ct.of (by decide) (fun as M Q h => ?_) (fun p e s m args below meth c as M Q h C => ?_)
  · obtain ⟨r, rfl, hT, h⟩ := h; exact ⟨by simp, by simp [Value.category]⟩
  · obtain ⟨r, rfl, hT, h⟩ := h
    refine s_of (fun lv st M0 hs => ?_) (WX4_empty_0 C (t_J7_fill_53178) (by decide))
    obtain ⟨rfl, rfl, rfl⟩ := hs
    unfold BX4_empty_0
    simp only [T_J7_fill_53178, i_const, i_lconst, i_iload, i_aload, i_lload, i_istore, i_astore, i_lstore, i_iinc, i_bin, i_div, i_un, i_i2l, i_l2i, i_lbin, i_lcmp, i_if, i_icmp, i_dup, i_dup_x1, i_dup2, i_pop, i_geti, i_getr, i_getd, i_puti, i_putz, i_putd, i_iald, i_bald, i_aald, i_iast, i_bast, i_alen, i_keep, i_ret, i_retz, i_reta, i_retl, i_retv, i_callv, i_callk, i_calls, i_mm, i_copy, i_under, i_undld, i_ldcs, i_sw, q_swc0, q_swc1, q_lg0, q_lg1, q_lent0, q_lent1, lset, lset2, q_lins0, q_lins1, q_ldel0, q_ldel1, q_ldel20, q_ldel21, q_lkeep0, q_lkeep1, q_memb0, q_memb1, cat2, Nat.reduceBEq, decide_true, decide_false, decide_eq_true_eq, cond_true, cond_false, Bool.and_true, Bool.and_false, Bool.true_and, Bool.false_and, f_iadd, f_isub, f_imul, f_ishl, f_ishr, f_iushr, f_iand, f_ior, f_idiv, f_irem, f_ineg, f_i2b, f_i2s, f_ladd, f_lmul, c_eq, c_ne, c_lt, c_ge, c_gt, c_le, cc_eq, cc_ne, cc_lt, cc_ge, cc_gt, cc_le, rfo, aof, csum, Value.category, List.take, List.drop, List.reverse, List.reverseAux, List.map, List.sum_cons, List.sum_nil, List.cons_append, List.nil_append, Option.toList, List.mem_cons, List.not_mem_nil, List.length_cons, List.length_nil, reduceIte, Nat.reduceEqDiff, Nat.reduceAdd, Nat.reduceLeDiff, Nat.reduceLT, a_day, Nat.zero_ne_one, Nat.one_ne_zero, false_and, and_false, true_and, and_true, or_false, false_or, or_true, true_or, not_true_eq_false, not_false_eq_true, Nat.zero_add, Nat.add_zero, Nat.le_refl, Nat.lt_irrefl, Nat.zero_lt_succ, Nat.zero_le, forall_const, List.cons.injEq, Value.int.injEq, Value.ref.injEq, Value.long.injEq, and_assoc, exists_and_left, exists_eq_left']
    try simp only [forall_eq]
    have tx := text_ok hr hT
    refine ⟨tx.1, tx.1, tx.2.2.1, by rw [tx.2.2.2.2.1.2.1]; decide, fun M' hs _ => h M' (fun a b hn => ?_) ?_⟩
    · rw [hs a b (fun q => hn (Or.inr q))]
      rw [mset_app]
      split
      · split
        · exact absurd (Or.inl ⟨by assumption, by assumption⟩) hn
        · rfl
      · rfl
    · rw [hs r 4 (by omega), ms_s]
def T_X4_endPart (g : WG) (as : List Value) (M : MM) (Q : Option Value → MM → Prop) : Prop := ∃ (r p sz : Nat), as = [.ref r, .int (nI p)] ∧ isT r ∧ p < 3 ∧ M r 4 = nI sz ∧ Q none (mset M (r + 2) p (nI sz))
set_option maxRecDepth 100000 in
set_option maxHeartbeats 1000000 in
theorem t_X4_endPart {l : Launch} {g : WG} (hr : Reg g 3 32) : Ct l g yX4_endPart cX4_endPart 2 ((Option.none : Option FieldType)) 1 (T_X4_endPart g) := by
  refine Ct.of (by decide) (fun as M Q h => ?_) (fun p e s m args below meth c as M Q h C => ?_)
  · obtain ⟨r, q, sz, rfl, hT, hq, h4, h⟩ := h; exact ⟨by simp, by simp [Value.category]⟩
  · obtain ⟨r, q, sz, rfl, hT, hq, h4, h⟩ := h
    refine s_of (fun lv st M0 hs => ?_) (WX4_endPart_0 C)
    obtain ⟨rfl, rfl, rfl⟩ := hs
    unfold BX4_endPart_0
    simp only [i_const, i_lconst, i_iload, i_aload, i_lload, i_istore, i_astore, i_lstore, i_iinc, i_bin, i_div, i_un, i_i2l, i_l2i, i_lbin, i_lcmp, i_if, i_icmp, i_dup, i_dup_x1, i_dup2, i_pop, i_geti, i_getr, i_getd, i_puti, i_putz, i_putd, i_iald, i_bald, i_aald, i_iast, i_bast, i_alen, i_keep, i_ret, i_retz, i_reta, i_retl, i_retv, i_callv, i_callk, i_calls, i_mm, i_copy, i_under, i_undld, i_ldcs, i_sw, q_swc0, q_swc1, q_lg0, q_lg1, q_lent0, q_lent1, lset, lset2, q_lins0, q_lins1, q_ldel0, q_ldel1, q_ldel20, q_ldel21, q_lkeep0, q_lkeep1, q_memb0, q_memb1, cat2, Nat.reduceBEq, decide_true, decide_false, decide_eq_true_eq, cond_true, cond_false, Bool.and_true, Bool.and_false, Bool.true_and, Bool.false_and, f_iadd, f_isub, f_imul, f_ishl, f_ishr, f_iushr, f_iand, f_ior, f_idiv, f_irem, f_ineg, f_i2b, f_i2s, f_ladd, f_lmul, c_eq, c_ne, c_lt, c_ge, c_gt, c_le, cc_eq, cc_ne, cc_lt, cc_ge, cc_gt, cc_le, rfo, aof, csum, Value.category, List.take, List.drop, List.reverse, List.reverseAux, List.map, List.sum_cons, List.sum_nil, List.cons_append, List.nil_append, Option.toList, List.mem_cons, List.not_mem_nil, List.length_cons, List.length_nil, reduceIte, Nat.reduceEqDiff, Nat.reduceAdd, Nat.reduceLeDiff, Nat.reduceLT, a_day, Nat.zero_ne_one, Nat.one_ne_zero, false_and, and_false, true_and, and_true, or_false, false_or, or_true, true_or, not_true_eq_false, not_false_eq_true, Nat.zero_add, Nat.add_zero, Nat.le_refl, Nat.lt_irrefl, Nat.zero_lt_succ, Nat.zero_le, forall_const, List.cons.injEq, Value.int.injEq, Value.ref.injEq, Value.long.injEq, and_assoc, exists_and_left, exists_eq_left']
    try simp only [forall_eq]
    have tx := text_ok hr hT
    rw [h4, nI_clamp (by omega)]
    refine ⟨fun z => absurd z (nI_pos (by omega)), fun _ => ⟨fun z => absurd ((nI_leI (a := 3) (by decide) (by omega)).mp z) (by omega), fun _ => ⟨tx.1, tx.1, tx.2.2.1, by rw [tx.2.2.2.2.1.2.1]; exact vp_in_nI hq (by decide), h⟩⟩⟩
/-- the first p parts of a text stand: their codes cs, the ends e -/
def PTx (M : MM) (r p : Nat) (cs : Nat → List Int32) (e : Nat → Nat) (sz : Nat) : Prop := e 0 = 0 ∧ e p = sz ∧ ∀ q, q < p → M (r + 2) q = nI (e (q + 1)) ∧ e (q + 1) = e q + (cs q).length ∧ (∀ t x, (cs q)[t]? = some x → M (r + 1) (e q + t) = tr x) ∧ wfc 1 (cs q)
theorem PTx.le {M : MM} {r p : Nat} {cs : Nat → List Int32} {e : Nat → Nat} {sz : Nat} (h : PTx M r p cs e sz) : ∀ d q, q + d = p → e q ≤ sz
  | 0, q, hq => by have := h.2.1; rw [← hq] at this; simp at this; omega
  | d + 1, q, hq => by
    have := h.le d (q + 1) (by omega)
    have := (h.2.2 q (by omega)).2.1
    omega
theorem PTx.add {M M1 : MM} {r p : Nat} {cs : Nat → List Int32} {e : Nat → Nat} {sz : Nat} (h : PTx M r p cs e sz) {c : List Int32} (h1 : ∀ q, q < sz → M1 (r + 1) q = M (r + 1) q) (h2 : M1 (r + 2) = M (r + 2)) (h3 : ∀ q x, c[q]? = some x → M1 (r + 1) (sz + q) = tr x) (h4 : wfc 1 c) :
    PTx (mset M1 (r + 2) p (nI (sz + c.length))) r (p + 1) (fun q => if q = p then c else cs q) (fun q => if q = p + 1 then sz + c.length else e q) (sz + c.length) := by
  refine ⟨?_, if_pos rfl, fun q hq => ?_⟩
  · dsimp only; rw [if_neg (by omega)]; exact h.1
  · by_cases g : q = p
    · subst g; dsimp only
      rw [if_pos rfl, if_neg (by omega), if_pos rfl, h.2.1, ms_s]
      exact ⟨rfl, rfl, fun t x ht => by rw [ms_q (by omega)]; exact h3 t x ht, h4⟩
    · obtain ⟨a, b, d, w⟩ := h.2.2 q (by omega)
      dsimp only
      rw [if_neg (by omega), if_neg (by omega), if_neg g, ms_j (by omega), h2]
      refine ⟨a, b, fun t x ht => ?_, w⟩
      have hl := (List.getElem?_eq_some_iff.mp ht).1
      have := h.le (p - (q + 1)) (q + 1) (by omega)
      rw [ms_q (by omega), h1 _ (by omega)]
      exact d t x ht
theorem seg_map {f : Nat → Int32} : ∀ (c : List Int32) (i : Nat), (∀ t x, c[t]? = some x → f (i + t) = tr x) → seg f i c.length = c.map tr
  | [], _, _ => rfl
  | a :: c, i, h => by
    simp only [List.length_cons, seg, List.map_cons]
    rw [seg_map c (i + 1) (fun t x ht => by rw [show i + 1 + t = i + (t + 1) by omega]; exact h (t + 1) x (by simpa using ht))]
    congr 1
    exact h 0 a rfl
theorem PTx.tx {M : MM} {r : Nat} {cs : Nat → List Int32} {e : Nat → Nat} {sz : Nat} (h : PTx M r 3 cs e sz) (hsz : sz ≤ 160) : txOK M r ∧ ∀ p, p < 3 → xc M r p = (cs p).map tr := by
  have hl : ∀ q, q ≤ 3 → e q ≤ 160 := fun q hq => by have := h.le (3 - q) q (by omega); omega
  have he : ∀ p, p < 3 → xe M r p = e (p + 1) := fun p hp => by unfold xe; rw [(h.2.2 p hp).1, nI_clamp (by have := hl (p + 1) (by omega); omega)]
  have hb : ∀ p, p < 3 → xb M r p = e p := fun p hp => by
    unfold xb
    split
    · next z => rw [z, h.1]
    · rw [(h.2.2 (p - 1) (by omega)).1, show p - 1 + 1 = p by omega, nI_clamp (by have := hl p (by omega); omega)]
  have hx : ∀ p, p < 3 → xc M r p = (cs p).map tr := fun p hp => by
    obtain ⟨a, b, d, w⟩ := h.2.2 p hp
    show seg (M (r + 1)) (xb M r p) (xe M r p - xb M r p) = _
    rw [he p hp, hb p hp, b, Nat.add_sub_cancel_left]
    exact seg_map _ _ d
  refine ⟨fun p hp => ?_, hx⟩
  obtain ⟨a, b, d, w⟩ := h.2.2 p hp
  rw [hx p hp, he p hp, hb p hp]
  exact ⟨a, by omega, hl _ (by omega), w.1 0⟩
def YRd (r : Nat) (a b : Nat) : Prop := YT a b ∨ YP r a b ∨ a = r + 2 ∨ (a = 3 ∧ b = 4)
/-- the rows of tokens stand -/
def RJ (M : MM) (n r m : Nat) (S V : SV) (M' : MM) : Prop := Sm (YRd r) M M' ∧ M' 5 = S ∧ M' 6 = V ∧ ∀ k, k ≤ m → M' 7 k = nI (pl (M 4) n k)
theorem RJ.yp {M M1 M2 : MM} {n r m : Nat} {S V : SV} (hT : isT r) (h : RJ M n r m S V M1) (hs : Sm (YP r) M1 M2) : RJ M n r m S V M2 := by
  obtain ⟨a, b, c, d⟩ := h
  exact ⟨a.tr (hs.mono fun _ _ q => Or.inr (Or.inl q)), by rw [YP_row hT hs 5 (by omega)]; exact b, by rw [YP_row hT hs 6 (by omega)]; exact c, by rw [YP_row hT hs 7 (by omega)]; exact d⟩
theorem RJ.r2 {M M1 : MM} {n r m : Nat} {S V : SV} (hT : isT r) (h : RJ M n r m S V M1) (p : Nat) (x : Int32) : RJ M n r m S V (mset M1 (r + 2) p x) := by
  have := isT_8 hT
  obtain ⟨a, b, c, d⟩ := h
  have e : ∀ q, q < 8 → mset M1 (r + 2) p x q = M1 q := fun q hq => funext fun j => ms_q (by omega)
  rw [RJ, e 5 (by omega), e 6 (by omega), e 7 (by omega)]
  exact ⟨a.set _ (Or.inr (Or.inr (Or.inl rfl))), b, c, d⟩
theorem RSt.r2 {M : MM} {r m i sz : Nat} {f : Int32} (hT : isT r) (h : RSt M r m i sz f) (p : Nat) (x : Int32) : RSt (mset M (r + 2) p x) r m i sz f := by
  have := isT_8 hT
  have e : ∀ q, q < 8 → mset M (r + 2) p x q = M q := fun q hq => funext fun j => ms_q (by omega)
  have e2 : mset M (r + 2) p x r = M r := funext fun j => ms_q (by omega)
  unfold RSt TPm at h ⊢
  rw [e 5 (by omega), e 6 (by omega), e 7 (by omega), e 3 (by omega), e2]
  exact h
def FlA (B : Nat → Int32) (n m : Nat) (S V : SV) (f : Int32) : Prop := ¬ f = -1 ∧ ∃ k, k ≤ m ∧ FlS S V k ∧ f = nI (pl B n k)
theorem part_mis {S V : SV} {i j : Nat} {c : List Int32} (hj : i + 1 ≤ j) (h59 : ¬ S j = 59) (hfo : fol (S j)) (h : GB 1 S V 0 (i + 1) j c) : ∃ x, stp S V (j - (i + 1)) (i + 1) ([], [], false, false, true) = some x ∧ flr (S j) (V j) x := by
  obtain ⟨o2, W2, cm', st', e, hl, hk⟩ := h [] [] rfl (by decide)
  refine ⟨_, e, ?_, fun q => absurd q h59⟩
  simp only [step]
  split
  · rw [hl]
  · rw [if_pos (sgn_fol hfo hk)]

