/-! ===== a day passes; a day becomes another; a seam more ===== -/
def upF (D : DV) (f0 k : Nat) (x : Int32) : DV := fun f i => if f = f0 ∧ i = k then x else D f i
theorem dv_set {M : MM} {q k j : Nat} {x : Int32} (hj : j < 6) (hk : k < dn (dv M q)) : dv (mset M (q + 5 + k) j x) q = upF (dv M q) (j + 1) k x := by
  rw [dv_n] at hk
  funext f i
  have a1 : ¬ q + 1 = q + 5 + k := by omega
  have a2 : ¬ q = q + 5 + k := by omega
  simp only [dv, upF, mset_app, a1, a2, if_false]
  by_cases h0 : f = 0
  · subst h0; simp
  · by_cases h7 : f < 7
    · simp only [h0, h7, if_true, if_false]
      by_cases hi : i < (M q 6).toNatClampNeg
      · simp only [hi, if_true]
        by_cases hik : i = k
        · subst hik
          by_cases hf : f = j + 1
          · subst hf; simp
          · have : ¬ f - 1 = j := by omega
            simp [hf, this]
        · have : ¬ q + 5 + i = q + 5 + k := by omega
          simp [hik, this]
      · have : ¬ i = k := by omega
        simp [hi, this]
    · have : ¬ f = j + 1 := by omega
      simp [h0, h7, this]
theorem dv_set5 {M : MM} {q : Nat} {x : Int32} : dv (mset M q 5 x) q = upF (dv M q) 7 1 x := by
  funext f i
  have a1 : ¬ q + 1 = q := by omega
  have a2 : ∀ i, ¬ q + 5 + i = q := by intro i; omega
  simp only [dv, upF, mset_app, a1, a2, if_false, if_true]
  by_cases h7 : f = 7
  · subst h7
    by_cases h1 : i = 1
    · subst h1; simp
    · simp [h1]
  · simp [h7]
theorem upF_ne {D : DV} {f0 k f i : Nat} {x : Int32} (h : ¬ f = f0) : upF D f0 k x f i = D f i := by simp [upF, h]
theorem upF_nk {D : DV} {f0 k f i : Nat} {x : Int32} (h : ¬ i = k) : upF D f0 k x f i = D f i := by simp [upF, h]
theorem upF_s {D : DV} {f0 k : Nat} {x : Int32} : upF D f0 k x f0 k = x := by simp [upF]
theorem whl_congr {D D' : DV} : ∀ {n : Nat}, (∀ i, i < n → D 6 i = D' 6 i) → whl D n = whl D' n
  | 0, _ => rfl
  | n + 1, h => by simp only [whl, h n (by omega)]; rw [whl_congr (fun j hj => h j (by omega))]
set_option maxRecDepth 100000 in
theorem fct_congr {D D' : DV} {s : Nat} {j : Int32} (h1 : ∀ f, 1 ≤ f → f < 6 → D f s = D' f s) (h6 : ∀ i, D 6 i = D' 6 i) (h7 : D 7 0 = D' 7 0 ∧ D 7 1 = D' 7 1) : fct D s j = fct D' s j := by
  have hd : dn D = dn D' := by unfold dn; rw [h7.1]
  have hw : whl D (dn D) = whl D' (dn D') := by rw [hd]; exact whl_congr (fun i _ => h6 i)
  have e4 := h1 4 (by omega) (by omega)
  have e3 := h1 3 (by omega) (by omega)
  have e5 := h1 5 (by omega) (by omega)
  have e2 := h1 2 (by omega) (by omega)
  have el : lenS' D s = lenS' D' s := by unfold lenS'; rw [e4, e3]
  have e1 := h7.2
  clear h1 h6 h7 e4 e3
  unfold fct
  rw [hw, el, e5, e2, e1]
theorem wr1_ne {X : XV} {D : DV} {n f i : Nat} (h : ¬ f = 5) : wr1 X D n f i = D f i := by simp [wr1, h]
theorem wr1_ge {X : XV} {D : DV} {n f i : Nat} (h : n ≤ i) : wr1 X D n f i = D f i := by
  have : ¬ i < n := by omega
  simp [wr1, this]
theorem wr1_0 (X : XV) (D : DV) : wr1 X D 0 = D := by funext f i; simp [wr1]
theorem wr1_s {X : XV} {D : DV} {k : Nat} : wr1 X D (k + 1) = if D 6 k = 0 then upF (wr1 X D k) 5 k (cap (D 5 k + wea X D k)) else wr1 X D k := by
  split
  · next h =>
    funext f i
    by_cases hf : f = 5
    · subst hf
      by_cases hi : i = k
      · subst hi; simp [upF, wr1, h]
      · by_cases hlt : i < k
        · have h1 : i < k + 1 := by omega
          simp [upF, wr1, hi, hlt, h1]
        · have h1 : ¬ i < k + 1 := by omega
          simp [upF, wr1, hi, hlt, h1]
    · simp [upF, wr1, hf]
  · next h =>
    funext f i
    by_cases hi : i = k
    · subst hi; simp [wr1, h]
    · by_cases hlt : i < k
      · have h1 : i < k + 1 := by omega
        simp [wr1, hlt, h1]
      · have h1 : ¬ i < k + 1 := by omega
        simp [wr1, hlt, h1]
theorem wea_wr1 {X : XV} {D : DV} {k n : Nat} (h : n ≤ k) : wea X (wr1 X D n) k = wea X D k := by
  have hr : rix (wr1 X D n) = rix D := by unfold rix; rw [wr1_ne (by decide)]
  have hf : fct (wr1 X D n) k 0 = fct D k 0 := fct_congr (fun f _ _ => wr1_ge h) (fun i => wr1_ne (by decide)) ⟨wr1_ne (by decide), wr1_ne (by decide)⟩
  unfold wea rul
  rw [hr, hf, wr1_ge h, wr1_ge h, wr1_ne (by decide)]
theorem wea_X {X X' : XV} {D : DV} (h : X' (rix D) = X (rix D)) (s : Nat) : wea X' D s = wea X D s := by simp only [wea, rul, h]
theorem sta_X {X X' : XV} {D : DV} (h : X' (rix D) = X (rix D)) (s : Nat) : sta X' D s = sta X D s := by simp only [sta, rul, h]
theorem bnd_N (v : Int32) {hi : Nat} (h : hi < 2 ^ 31) : isN (bnd v (nI hi)) (hi + 1) := by
  unfold bnd
  split
  · exact ⟨0, by omega, rfl⟩
  · next h0 =>
    split
    · exact ⟨hi, by omega, rfl⟩
    · next h1 =>
      obtain ⟨k, hk, rfl⟩ := nI_of h0
      have := (nI_leI hk h).mp (i_not_lt.mp h1)
      exact ⟨k, by omega, rfl⟩
theorem half_N {v : Int32} {hi : Nat} (h : isN v hi) (h2 : hi < 2 ^ 31) : isN (v / 2) hi := by
  obtain ⟨k, hk, rfl⟩ := h
  have e : (2 : Int32) = nI 2 := rfl
  rw [e, pk_div (by omega) (by decide) (by decide)]
  exact ⟨k / 2, by omega, rfl⟩
theorem wea_N (X : XV) (D : DV) (s : Nat) : isN (wea X D s) 100 := by
  have hb := bnd_N (rul X D 1 s 0) (hi := 99) (by decide)
  have e99 : (99 : Int32) = nI 99 := rfl
  unfold wea kindW
  rw [e99]
  split
  · exact bnd_N _ (by decide)
  · split
    · exact bnd_N _ (by decide)
    · split
      · split
        · exact half_N hb (by decide)
        · exact hb
      · split
        · exact ⟨9, by decide, rfl⟩
        · exact hb
theorem cap_N {x v : Int32} (hx : isN x 10000) (hv : isN v 100) : isN (cap (x + v)) 10000 := by
  obtain ⟨a, ha, rfl⟩ := hx
  obtain ⟨b, hb, rfl⟩ := hv
  unfold cap
  rw [nI_add]
  have e : (9999 : Int32) = nI 9999 := rfl
  rw [e]
  split
  · next h => exact ⟨a + b, by have := (nI_ltI (by omega) (by omega)).mp h; omega, rfl⟩
  · exact ⟨9999, by omega, rfl⟩
theorem wfD_up5 {D : DV} {T k : Nat} {x : Int32} (h : wfD D T) (hx : isN x 10000) : wfD (upF D 5 k x) T := by
  refine ⟨h.1, h.2.1, fun s hs => ?_, h.2.2.2⟩
  obtain ⟨w1, w2, w3, w4, w5, w6⟩ := h.2.2.1 s hs
  refine ⟨w1, w2, w3, w4, ?_, w6⟩
  by_cases e : s = k
  · subst e; rw [upF_s]; exact hx
  · rw [upF_nk e]; exact w5
theorem wfD_up6 {D : DV} {T k : Nat} {x : Int32} (h : wfD D T) (hx : x = 0 ∨ x = 1) : wfD (upF D 6 k x) T := by
  refine ⟨h.1, h.2.1, fun s hs => ?_, h.2.2.2⟩
  obtain ⟨w1, w2, w3, w4, w5, w6, w7⟩ := h.2.2.1 s hs
  refine ⟨w1, w2, w3, w4, w5, ?_, w7⟩
  by_cases e : s = k
  · subst e; rw [upF_s]; exact hx
  · rw [upF_nk e]; exact w6
theorem wfD_wr1 {X : XV} {D : DV} {T : Nat} (h : wfD D T) : ∀ {n : Nat}, n ≤ dn D → wfD (wr1 X D n) T
  | 0, _ => by rw [wr1_0]; exact h
  | n + 1, hn => by
    rw [wr1_s]
    split
    · exact wfD_up5 (wfD_wr1 h (by omega)) (cap_N (h.2.2.1 n (by omega)).2.2.2.2.1 (wea_N X D n))
    · exact wfD_wr1 h (by omega)
theorem brs_eq (X : XV) (D : DV) (s : Nat) : brs X D s = if D 6 s = 0 ∧ sta X D s ≤ D 5 s then upF D 6 s 1 else D := rfl
theorem wfD_brn {X : XV} {D : DV} {T : Nat} (h : wfD D T) : ∀ n : Nat, wfD (brn X D n) T
  | 0 => h
  | n + 1 => by
    simp only [brn]
    rw [brs_eq]
    split
    · exact wfD_up6 (wfD_brn h n) (Or.inr rfl)
    · exact wfD_brn h n
theorem brn_ne {X : XV} {D : DV} {f i : Nat} (h : ¬ f = 6) : ∀ n : Nat, brn X D n f i = D f i
  | 0 => rfl
  | n + 1 => by
    simp only [brn]
    rw [brs_eq]
    split
    · rw [upF_ne h]; exact brn_ne h n
    · exact brn_ne h n
theorem whl_up6 {D : DV} {s : Nat} (h : D 6 s = 0) : ∀ {n : Nat}, s < n → whl (upF D 6 s 1) n = whl D n + -1
  | 0, hs => absurd hs (by omega)
  | n + 1, hs => by
    simp only [whl]
    by_cases e : s = n
    · subst e
      rw [upF_s, whl_congr (D' := D) (fun i hi => upF_nk (by omega))]
      have h1 : ¬ (1 : Int32) = 0 := by decide
      rw [if_neg h1, if_pos h, Int32.add_assoc]; rfl
    · rw [upF_nk (by omega), whl_up6 h (by omega), Int32.add_assoc, Int32.add_assoc, Int32.add_comm (-1)]
theorem dayD_eq (D : DV) : dayD D = upF D 7 1 (D 7 1 + 1) := rfl
theorem wfD_pas {X : XV} {D : DV} {T : Nat} (h : wfD D T) : wfD (pasD X D) T := by
  have h2 := wfD_brn (X := X) (wfD_wr1 (X := X) h (n := dn D) (Nat.le_refl _)) (dn D)
  unfold pasD
  rw [dayD_eq]
  have e0 : ∀ D : DV, ∀ x, upF D 7 1 x 7 0 = D 7 0 := fun D x => upF_nk (by decide)
  have e2 : ∀ D : DV, ∀ x, upF D 7 1 x 7 2 = D 7 2 := fun D x => upF_nk (by decide)
  obtain ⟨w1, w2, w3, w4⟩ := h2
  refine ⟨w1, w2, fun s hs => ?_, w4⟩
  exact w3 s hs
def T_X0_wearOn (g : WG) (as : List Value) (M : MM) (Q : Option Value → MM → Prop) : Prop := ∃ (q : Nat), as = [.ref q] ∧ okD M q ∧ ∀ M', Sm (XD q) M M' → dv M' q = pasD (xc M) (dv M q) → Q (some (.int (pasB (xc M) (dv M q)))) M'
set_option maxRecDepth 100000 in
set_option maxHeartbeats 2000000 in
theorem t_X0_wearOn {l : Launch} {g : WG} (hg : Full g) : Ct l g yX0_wearOn cX0_wearOn 4 ((Option.some FieldType.int)) 5 (T_X0_wearOn g) := by
  refine Ct.of (by decide) (fun as M Q h => ?_) (fun p e s m args below meth c as M Q h C => ?_)
  · obtain ⟨q, rfl, hq, h⟩ := h; exact ⟨by simp, by simp [Value.category]⟩
  · obtain ⟨q, rfl, hq, h⟩ := h
    obtain ⟨o1, o2, o3, o4, o5, ⟨l1, l2, l3, l4⟩, og, ok⟩ := day_ok hg hq.1
    have hqd := hq.1
    have hn := hq.n
    obtain ⟨-, Tn, hwf, htx⟩ := id hq
    obtain ⟨D, hDe⟩ : ∃ D, dv M q = D := ⟨_, rfl⟩
    obtain ⟨X, hXe⟩ : ∃ X, xc M = X := ⟨_, rfl⟩
    rw [hDe] at hn hwf
    rw [hDe, hXe] at h
    have key : ∀ M' : MM, Sm (XD q) M M' → ∀ D', dv M' q = D' → wfD D' Tn → rix D' = rix D → okD M' q ∧ (∀ s, wea (xc M') D' s = wea X D' s ∧ sta (xc M') D' s = sta X D' s) := by
      intro M' hs D' hd hw hr
      have h6 := hwf.2.2.2.2
      refine ⟨⟨hqd, Tn, by rw [hd]; exact hw, fun t ht => (xc_D hs hqd (by omega)).2 (htx t ht)⟩, ?_⟩
      obtain ⟨t, ht, -, -, hrix⟩ := hq.rule
      rw [hDe] at hrix
      have hx : xc M' (rix D') = X (rix D') := by rw [hr, hrix, ← hXe]; exact (xc_D hs hqd ht).1
      exact fun s => ⟨wea_X hx s, sta_X hx s⟩
    have hw1 : ∀ k, k ≤ dn D → wfD (wr1 X D k) Tn := fun k hk => wfD_wr1 hwf hk
    obtain ⟨D1, hD1⟩ : ∃ D1, wr1 X D (dn D) = D1 := ⟨_, rfl⟩
    have hwf1 : wfD D1 Tn := by rw [← hD1]; exact hw1 _ (Nat.le_refl _)
    have hn1 : ∀ k, dn (wr1 X D k) = dn D := fun k => by unfold dn; rw [wr1_ne (by decide)]
    have hr1 : ∀ k, rix (wr1 X D k) = rix D := fun k => by unfold rix; rw [wr1_ne (by decide)]
    have hnb : ∀ k, dn (brn X D1 k) = dn D := fun k => by unfold dn; rw [brn_ne (by decide), ← hD1, wr1_ne (by decide)]
    have hrb : ∀ k, rix (brn X D1 k) = rix D := fun k => by unfold rix; rw [brn_ne (by decide), ← hD1, wr1_ne (by decide)]
    obtain ⟨I7, hI7⟩ : ∃ I : Nat → PP, I = (fun n lv st M' => ∃ k, lv = [(0, .ref q), (1, .int (whl D (dn D))), (2, .int (nI k))] ∧ st = [] ∧ k ≤ dn D ∧ n = dn D - k ∧ Sm (XD q) M M' ∧ dv M' q = wr1 X D k) := ⟨_, rfl⟩
    obtain ⟨E7, hE7⟩ : ∃ E : PP, E = (fun lv st M => ∃ n, I7 n lv st M) := ⟨_, rfl⟩
    have iE7 : ∀ n lv st M, I7 n lv st M → E7 lv st M := fun n lv st M h => by rw [hE7]; exact ⟨n, h⟩
    obtain ⟨I73, hI73⟩ : ∃ I : Nat → PP, I = (fun n lv st M' => ∃ k, lv = [(0, .ref q), (1, .int (whl (brn X D1 k) (dn D))), (2, .int (bbn X D1 k)), (3, .int (nI k))] ∧ st = [] ∧ k ≤ dn D ∧ n = dn D - k ∧ Sm (XD q) M M' ∧ dv M' q = brn X D1 k) := ⟨_, rfl⟩
    obtain ⟨E73, hE73⟩ : ∃ E : PP, E = (fun lv st M => ∃ n, I73 n lv st M) := ⟨_, rfl⟩
    have iE73 : ∀ n lv st M, I73 n lv st M → E73 lv st M := fun n lv st M h => by rw [hE73]; exact ⟨n, h⟩
    have L73 : Sj p l e 5 s m args below meth c 4 g (MQ below (cQc g Q) args s 0 0 (gA g)) 73 E73 := by
      rw [hE73]
      refine s_ex (s_loop I73 (fun K73 k73 => WX0_wearOn_73 C (by decide) (t_X0_whole hg) (by decide) (t_X0_wears hg) (by decide) (t_X0_stands hg) (by decide) s_F k73) ?_)
      intro n lv st M1 K73 hK73 hI; rw [hI73] at hI; obtain ⟨k, rfl, rfl, hk, rfl, hs, hd⟩ := hI
      unfold BX0_wearOn_73
      generalize hB113 : BX0_wearOn_113 g Q (T_X0_whole g) (T_X0_wears g) (T_X0_stands g) (fun _ _ _ => False) K73 = B113
      generalize hB141 : BX0_wearOn_141 g Q (T_X0_whole g) (T_X0_wears g) (T_X0_stands g) (fun _ _ _ => False) K73 = B141
      simp only [T_X0_whole, T_X0_wears, T_X0_stands, i_const, i_lconst, i_iload, i_aload, i_lload, i_istore, i_astore, i_lstore, i_iinc, i_bin, i_div, i_un, i_i2l, i_l2i, i_lbin, i_lcmp, i_if, i_icmp, i_dup, i_dup_x1, i_dup2, i_pop, i_geti, i_getr, i_getd, i_puti, i_putz, i_putd, i_iald, i_bald, i_aald, i_iast, i_bast, i_alen, i_keep, i_ret, i_retz, i_reta, i_retl, i_retv, i_callv, i_callk, i_calls, i_mm, i_copy, i_under, i_undld, i_ldcs, i_sw, q_swc0, q_swc1, q_lg0, q_lg1, q_lent0, q_lent1, lset, lset2, q_lins0, q_lins1, q_ldel0, q_ldel1, q_ldel20, q_ldel21, q_lkeep0, q_lkeep1, q_memb0, q_memb1, cat2, Nat.reduceBEq, decide_true, decide_false, decide_eq_true_eq, cond_true, cond_false, Bool.and_true, Bool.and_false, Bool.true_and, Bool.false_and, f_iadd, f_isub, f_imul, f_ishl, f_ishr, f_iushr, f_iand, f_ior, f_idiv, f_irem, f_ineg, f_i2b, f_i2s, f_ladd, f_lmul, c_eq, c_ne, c_lt, c_ge, c_gt, c_le, cc_eq, cc_ne, cc_lt, cc_ge, cc_gt, cc_le, rfo, aof, csum, Value.category, List.take, List.drop, List.reverse, List.reverseAux, List.map, List.sum_cons, List.sum_nil, List.cons_append, List.nil_append, Option.toList, List.mem_cons, List.not_mem_nil, List.length_cons, List.length_nil, reduceIte, Nat.reduceEqDiff, Nat.reduceAdd, Nat.reduceLeDiff, Nat.reduceLT, a_day, Nat.zero_ne_one, Nat.one_ne_zero, false_and, and_false, true_and, and_true, or_false, false_or, or_true, true_or, not_true_eq_false, not_false_eq_true, Nat.zero_add, Nat.add_zero, Nat.le_refl, Nat.lt_irrefl, Nat.zero_lt_succ, Nat.zero_le, forall_const, List.cons.injEq, Value.int.injEq, Value.ref.injEq, Value.long.injEq, and_assoc, exists_and_left, exists_eq_left']
      try simp only [forall_eq]
      obtain ⟨hq1, hX1⟩ := key M1 hs _ hd (wfD_brn hwf1 k) (hrb k)
      have h61 := hq1.many
      rw [hd, hnb] at h61
      rw [h61]
      refine ⟨o1, fun z => ?_, fun z => ?_⟩
      · have hkk : k = dn D := by
          have := (nI_leI (a := dn D) (b := k) (by omega) (by omega)).mp z
          omega
        subst hkk
        subst hB141
        unfold BX0_wearOn_141
        simp only [T_X0_whole, T_X0_wears, T_X0_stands, i_const, i_lconst, i_iload, i_aload, i_lload, i_istore, i_astore, i_lstore, i_iinc, i_bin, i_div, i_un, i_i2l, i_l2i, i_lbin, i_lcmp, i_if, i_icmp, i_dup, i_dup_x1, i_dup2, i_pop, i_geti, i_getr, i_getd, i_puti, i_putz, i_putd, i_iald, i_bald, i_aald, i_iast, i_bast, i_alen, i_keep, i_ret, i_retz, i_reta, i_retl, i_retv, i_callv, i_callk, i_calls, i_mm, i_copy, i_under, i_undld, i_ldcs, i_sw, q_swc0, q_swc1, q_lg0, q_lg1, q_lent0, q_lent1, lset, lset2, q_lins0, q_lins1, q_ldel0, q_ldel1, q_ldel20, q_ldel21, q_lkeep0, q_lkeep1, q_memb0, q_memb1, cat2, Nat.reduceBEq, decide_true, decide_false, decide_eq_true_eq, cond_true, cond_false, Bool.and_true, Bool.and_false, Bool.true_and, Bool.false_and, f_iadd, f_isub, f_imul, f_ishl, f_ishr, f_iushr, f_iand, f_ior, f_idiv, f_irem, f_ineg, f_i2b, f_i2s, f_ladd, f_lmul, c_eq, c_ne, c_lt, c_ge, c_gt, c_le, cc_eq, cc_ne, cc_lt, cc_ge, cc_gt, cc_le, rfo, aof, csum, Value.category, List.take, List.drop, List.reverse, List.reverseAux, List.map, List.sum_cons, List.sum_nil, List.cons_append, List.nil_append, Option.toList, List.mem_cons, List.not_mem_nil, List.length_cons, List.length_nil, reduceIte, Nat.reduceEqDiff, Nat.reduceAdd, Nat.reduceLeDiff, Nat.reduceLT, a_day, Nat.zero_ne_one, Nat.one_ne_zero, false_and, and_false, true_and, and_true, or_false, false_or, or_true, true_or, not_true_eq_false, not_false_eq_true, Nat.zero_add, Nat.add_zero, Nat.le_refl, Nat.lt_irrefl, Nat.zero_lt_succ, Nat.zero_le, forall_const, List.cons.injEq, Value.int.injEq, Value.ref.injEq, Value.long.injEq, and_assoc, exists_and_left, exists_eq_left']
        try simp only [forall_eq]
        refine ⟨o1, o1, ?_⟩
        have hpd : pasD X D = upF (brn X D1 (dn D)) 7 1 (brn X D1 (dn D) 7 1 + 1) := by unfold pasD; rw [dayD_eq, hD1]
        have hpb : pasB X D = bbn X D1 (dn D) := by unfold pasB; rw [hD1]
        rw [← hpb]
        refine h _ (hs.set _ (Or.inl (by omega))) ?_
        rw [dv_set5, hd, hpd, ← hd, dv_71]
      · have hlt : k < dn D := by
          rcases Nat.lt_or_ge k (dn D) with w | w
          · exact w
          · exact absurd (nI_le w (by omega)) z
        have hlt1 : k < dn (dv M1 q) := by rw [hd, hnb]; exact hlt
        have kk : ∀ j, j < 6 → M1 (q + 5 + k) j = brn X D1 k (j + 1) k := fun j hj => by rw [← dv_s j hj hlt1, hd]
        have so := seam_ok (s := k) hg hqd (by omega)
        have vi : vp_in (nI k) (ln (q + 2)) := vp_in_nI (by omega) (by omega)
        rw [nI_clamp (by omega), kk 5 (by omega), kk 4 (by omega)]
        refine ⟨o1, o3, vi, so, fun y => ?_, fun y => ?_⟩
        · refine hK73 (dn D - (k + 1)) _ _ _ (by omega) ?_
          rw [hI73]
          have hc : ¬ (brn X D1 k 6 k = 0 ∧ sta X (brn X D1 k) k ≤ brn X D1 k 5 k) := fun w => y w.1
          have e1 : brn X D1 (k + 1) = brn X D1 k := by simp only [brn]; rw [brs_eq, if_neg hc]
          have e2 : bbn X D1 (k + 1) = bbn X D1 k := by simp only [bbn]; rw [if_neg hc]
          exact ⟨k + 1, by rw [nI_1, e1, e2], rfl, by omega, rfl, hs, by rw [hd, e1]⟩
        · have y0 : brn X D1 k 6 k = 0 := Decidable.not_not.mp y
          have hwh : whl (brn X D1 k) (dn D) = whl (dv M1 q) (dn (dv M1 q)) := by rw [hd, hnb]
          refine ⟨o1, o3, vi, so, o1, o3, vi, og, ok, k, rfl, hwh, hq1, hlt1, fun M2 hs2 => ?_⟩
          have hs2D : Sm (XD q) M M2 := hs.tr (hs2.mono fun _ _ e => XP_D (XF_P e))
          have hd2 : dv M2 q = brn X D1 k := by rw [← hd]; exact dv_P (hs2.mono fun _ _ e => XF_P e) hqd hqd hq1.n
          have hlt2 : k < dn (dv M2 q) := by rw [hd2, hnb]; exact hlt
          subst hB113
          unfold BX0_wearOn_113
          simp only [T_X0_whole, T_X0_wears, T_X0_stands, i_const, i_lconst, i_iload, i_aload, i_lload, i_istore, i_astore, i_lstore, i_iinc, i_bin, i_div, i_un, i_i2l, i_l2i, i_lbin, i_lcmp, i_if, i_icmp, i_dup, i_dup_x1, i_dup2, i_pop, i_geti, i_getr, i_getd, i_puti, i_putz, i_putd, i_iald, i_bald, i_aald, i_iast, i_bast, i_alen, i_keep, i_ret, i_retz, i_reta, i_retl, i_retv, i_callv, i_callk, i_calls, i_mm, i_copy, i_under, i_undld, i_ldcs, i_sw, q_swc0, q_swc1, q_lg0, q_lg1, q_lent0, q_lent1, lset, lset2, q_lins0, q_lins1, q_ldel0, q_ldel1, q_ldel20, q_ldel21, q_lkeep0, q_lkeep1, q_memb0, q_memb1, cat2, Nat.reduceBEq, decide_true, decide_false, decide_eq_true_eq, cond_true, cond_false, Bool.and_true, Bool.and_false, Bool.true_and, Bool.false_and, f_iadd, f_isub, f_imul, f_ishl, f_ishr, f_iushr, f_iand, f_ior, f_idiv, f_irem, f_ineg, f_i2b, f_i2s, f_ladd, f_lmul, c_eq, c_ne, c_lt, c_ge, c_gt, c_le, cc_eq, cc_ne, cc_lt, cc_ge, cc_gt, cc_le, rfo, aof, csum, Value.category, List.take, List.drop, List.reverse, List.reverseAux, List.map, List.sum_cons, List.sum_nil, List.cons_append, List.nil_append, Option.toList, List.mem_cons, List.not_mem_nil, List.length_cons, List.length_nil, reduceIte, Nat.reduceEqDiff, Nat.reduceAdd, Nat.reduceLeDiff, Nat.reduceLT, a_day, Nat.zero_ne_one, Nat.one_ne_zero, false_and, and_false, true_and, and_true, or_false, false_or, or_true, true_or, not_true_eq_false, not_false_eq_true, Nat.zero_add, Nat.add_zero, Nat.le_refl, Nat.lt_irrefl, Nat.zero_lt_succ, Nat.zero_le, forall_const, List.cons.injEq, Value.int.injEq, Value.ref.injEq, Value.long.injEq, and_assoc, exists_and_left, exists_eq_left']
          try simp only [forall_eq]
          rw [hd, (hX1 k).2]
          refine ⟨fun w => ?_, fun w => ⟨o1, o3, vi, ?_⟩⟩
          · refine hK73 (dn D - (k + 1)) _ _ _ (by omega) ?_
            rw [hI73]
            have hc : ¬ (brn X D1 k 6 k = 0 ∧ sta X (brn X D1 k) k ≤ brn X D1 k 5 k) := fun u => i_not_lt.mpr u.2 w
            have e1 : brn X D1 (k + 1) = brn X D1 k := by simp only [brn]; rw [brs_eq, if_neg hc]
            have e2 : bbn X D1 (k + 1) = bbn X D1 k := by simp only [bbn]; rw [if_neg hc]
            exact ⟨k + 1, by rw [nI_1, e1, e2], rfl, by omega, rfl, hs2D, by rw [hd2, e1]⟩
          · have hc : brn X D1 k 6 k = 0 ∧ sta X (brn X D1 k) k ≤ brn X D1 k 5 k := ⟨y0, i_not_lt.mp w⟩
            have e1 : brn X D1 (k + 1) = upF (brn X D1 k) 6 k 1 := by simp only [brn]; rw [brs_eq, if_pos hc]
            have e2 : bbn X D1 (k + 1) = bbn X D1 k ||| (1 <<< (nI k &&& 31)) := by simp only [bbn]; rw [if_pos hc]
            rw [nI_clamp (by omega)]
            refine ⟨so, ?_⟩
            refine hK73 (dn D - (k + 1)) _ _ _ (by omega) ?_
            rw [hI73]
            exact ⟨k + 1, by rw [nI_1, e1, e2, whl_up6 y0 hlt], rfl, by omega, rfl, hs2D.set _ (Or.inl (by omega)), by rw [dv_set (by omega) hlt2, hd2, e1]⟩
    have L7 : Sj p l e 5 s m args below meth c 4 g (MQ below (cQc g Q) args s 0 0 (gA g)) 7 E7 := by
      rw [hE7]
      refine s_ex (s_loop I7 (fun K7 k7 => WX0_wearOn_7 C (by decide) (t_X0_whole hg) (by decide) (t_X0_wears hg) (by decide) (t_X0_stands hg) (by decide) k7 L73) ?_)
      intro n lv st M1 K7 hK7 hI; rw [hI7] at hI; obtain ⟨k, rfl, rfl, hk, rfl, hs, hd⟩ := hI
      unfold BX0_wearOn_7
      generalize hB56 : BX0_wearOn_56 g Q (T_X0_whole g) (T_X0_wears g) (T_X0_stands g) K7 E73 = B56
      generalize hB69 : BX0_wearOn_69 g Q (T_X0_whole g) (T_X0_wears g) (T_X0_stands g) K7 E73 = B69
      simp only [T_X0_whole, T_X0_wears, T_X0_stands, i_const, i_lconst, i_iload, i_aload, i_lload, i_istore, i_astore, i_lstore, i_iinc, i_bin, i_div, i_un, i_i2l, i_l2i, i_lbin, i_lcmp, i_if, i_icmp, i_dup, i_dup_x1, i_dup2, i_pop, i_geti, i_getr, i_getd, i_puti, i_putz, i_putd, i_iald, i_bald, i_aald, i_iast, i_bast, i_alen, i_keep, i_ret, i_retz, i_reta, i_retl, i_retv, i_callv, i_callk, i_calls, i_mm, i_copy, i_under, i_undld, i_ldcs, i_sw, q_swc0, q_swc1, q_lg0, q_lg1, q_lent0, q_lent1, lset, lset2, q_lins0, q_lins1, q_ldel0, q_ldel1, q_ldel20, q_ldel21, q_lkeep0, q_lkeep1, q_memb0, q_memb1, cat2, Nat.reduceBEq, decide_true, decide_false, decide_eq_true_eq, cond_true, cond_false, Bool.and_true, Bool.and_false, Bool.true_and, Bool.false_and, f_iadd, f_isub, f_imul, f_ishl, f_ishr, f_iushr, f_iand, f_ior, f_idiv, f_irem, f_ineg, f_i2b, f_i2s, f_ladd, f_lmul, c_eq, c_ne, c_lt, c_ge, c_gt, c_le, cc_eq, cc_ne, cc_lt, cc_ge, cc_gt, cc_le, rfo, aof, csum, Value.category, List.take, List.drop, List.reverse, List.reverseAux, List.map, List.sum_cons, List.sum_nil, List.cons_append, List.nil_append, Option.toList, List.mem_cons, List.not_mem_nil, List.length_cons, List.length_nil, reduceIte, Nat.reduceEqDiff, Nat.reduceAdd, Nat.reduceLeDiff, Nat.reduceLT, a_day, Nat.zero_ne_one, Nat.one_ne_zero, false_and, and_false, true_and, and_true, or_false, false_or, or_true, true_or, not_true_eq_false, not_false_eq_true, Nat.zero_add, Nat.add_zero, Nat.le_refl, Nat.lt_irrefl, Nat.zero_lt_succ, Nat.zero_le, forall_const, List.cons.injEq, Value.int.injEq, Value.ref.injEq, Value.long.injEq, and_assoc, exists_and_left, exists_eq_left']
      try simp only [forall_eq]
      obtain ⟨hq1, hX1⟩ := key M1 hs _ hd (hw1 k hk) (hr1 k)
      have h61 := hq1.many
      rw [hd, hn1] at h61
      rw [h61]
      refine ⟨o1, fun z => ?_, fun z => ?_⟩
      · have hkk : k = dn D := by
          have := (nI_leI (a := dn D) (b := k) (by omega) (by omega)).mp z
          omega
        subst hkk
        subst hB69
        unfold BX0_wearOn_69
        simp only [T_X0_whole, T_X0_wears, T_X0_stands, i_const, i_lconst, i_iload, i_aload, i_lload, i_istore, i_astore, i_lstore, i_iinc, i_bin, i_div, i_un, i_i2l, i_l2i, i_lbin, i_lcmp, i_if, i_icmp, i_dup, i_dup_x1, i_dup2, i_pop, i_geti, i_getr, i_getd, i_puti, i_putz, i_putd, i_iald, i_bald, i_aald, i_iast, i_bast, i_alen, i_keep, i_ret, i_retz, i_reta, i_retl, i_retv, i_callv, i_callk, i_calls, i_mm, i_copy, i_under, i_undld, i_ldcs, i_sw, q_swc0, q_swc1, q_lg0, q_lg1, q_lent0, q_lent1, lset, lset2, q_lins0, q_lins1, q_ldel0, q_ldel1, q_ldel20, q_ldel21, q_lkeep0, q_lkeep1, q_memb0, q_memb1, cat2, Nat.reduceBEq, decide_true, decide_false, decide_eq_true_eq, cond_true, cond_false, Bool.and_true, Bool.and_false, Bool.true_and, Bool.false_and, f_iadd, f_isub, f_imul, f_ishl, f_ishr, f_iushr, f_iand, f_ior, f_idiv, f_irem, f_ineg, f_i2b, f_i2s, f_ladd, f_lmul, c_eq, c_ne, c_lt, c_ge, c_gt, c_le, cc_eq, cc_ne, cc_lt, cc_ge, cc_gt, cc_le, rfo, aof, csum, Value.category, List.take, List.drop, List.reverse, List.reverseAux, List.map, List.sum_cons, List.sum_nil, List.cons_append, List.nil_append, Option.toList, List.mem_cons, List.not_mem_nil, List.length_cons, List.length_nil, reduceIte, Nat.reduceEqDiff, Nat.reduceAdd, Nat.reduceLeDiff, Nat.reduceLT, a_day, Nat.zero_ne_one, Nat.one_ne_zero, false_and, and_false, true_and, and_true, or_false, false_or, or_true, true_or, not_true_eq_false, not_false_eq_true, Nat.zero_add, Nat.add_zero, Nat.le_refl, Nat.lt_irrefl, Nat.zero_lt_succ, Nat.zero_le, forall_const, List.cons.injEq, Value.int.injEq, Value.ref.injEq, Value.long.injEq, and_assoc, exists_and_left, exists_eq_left']
        try simp only [forall_eq]
        refine iE73 (dn D - 0) _ _ _ ?_
        rw [hI73]
        refine ⟨0, ?_, rfl, by omega, rfl, hs, by rw [hd]; exact hD1⟩
        have : whl D (dn D) = whl (brn X D1 0) (dn D) := whl_congr (fun i hi => by show D 6 i = D1 6 i; rw [← hD1, wr1_ne (by decide)])
        rw [← this]; rfl
      · have hlt : k < dn D := by
          rcases Nat.lt_or_ge k (dn D) with w | w
          · exact w
          · exact absurd (nI_le w (by omega)) z
        have hlt1 : k < dn (dv M1 q) := by rw [hd, hn1]; exact hlt
        have kk : ∀ j, j < 6 → M1 (q + 5 + k) j = wr1 X D k (j + 1) k := fun j hj => by rw [← dv_s j hj hlt1, hd]
        have so := seam_ok (s := k) hg hqd (by omega)
        rw [nI_clamp (by omega), kk 5 (by omega), wr1_ne (by decide)]
        have vi : vp_in (nI k) (ln (q + 2)) := vp_in_nI (by omega) (by omega)
        refine ⟨o1, o3, vi, so, fun y => ?_, fun y => ?_⟩
        · refine hK7 (dn D - (k + 1)) _ _ _ (by omega) ?_
          rw [hI7]
          exact ⟨k + 1, by rw [nI_1], rfl, by omega, rfl, hs, by rw [hd, wr1_s, if_neg y]⟩
        · have y0 : D 6 k = 0 := Decidable.not_not.mp y
          have hwh : whl D (dn D) = whl (dv M1 q) (dn (dv M1 q)) := by rw [hd, hn1]; exact whl_congr (fun i _ => (wr1_ne (by decide)).symm)
          refine ⟨o1, o3, vi, o1, o3, vi, so, o1, o3, vi, og, ok, k, rfl, hwh, hq1, hlt1, fun M2 hs2 => ?_⟩
          subst hB56
          unfold BX0_wearOn_56
          simp only [T_X0_whole, T_X0_wears, T_X0_stands, i_const, i_lconst, i_iload, i_aload, i_lload, i_istore, i_astore, i_lstore, i_iinc, i_bin, i_div, i_un, i_i2l, i_l2i, i_lbin, i_lcmp, i_if, i_icmp, i_dup, i_dup_x1, i_dup2, i_pop, i_geti, i_getr, i_getd, i_puti, i_putz, i_putd, i_iald, i_bald, i_aald, i_iast, i_bast, i_alen, i_keep, i_ret, i_retz, i_reta, i_retl, i_retv, i_callv, i_callk, i_calls, i_mm, i_copy, i_under, i_undld, i_ldcs, i_sw, q_swc0, q_swc1, q_lg0, q_lg1, q_lent0, q_lent1, lset, lset2, q_lins0, q_lins1, q_ldel0, q_ldel1, q_ldel20, q_ldel21, q_lkeep0, q_lkeep1, q_memb0, q_memb1, cat2, Nat.reduceBEq, decide_true, decide_false, decide_eq_true_eq, cond_true, cond_false, Bool.and_true, Bool.and_false, Bool.true_and, Bool.false_and, f_iadd, f_isub, f_imul, f_ishl, f_ishr, f_iushr, f_iand, f_ior, f_idiv, f_irem, f_ineg, f_i2b, f_i2s, f_ladd, f_lmul, c_eq, c_ne, c_lt, c_ge, c_gt, c_le, cc_eq, cc_ne, cc_lt, cc_ge, cc_gt, cc_le, rfo, aof, csum, Value.category, List.take, List.drop, List.reverse, List.reverseAux, List.map, List.sum_cons, List.sum_nil, List.cons_append, List.nil_append, Option.toList, List.mem_cons, List.not_mem_nil, List.length_cons, List.length_nil, reduceIte, Nat.reduceEqDiff, Nat.reduceAdd, Nat.reduceLeDiff, Nat.reduceLT, a_day, Nat.zero_ne_one, Nat.one_ne_zero, false_and, and_false, true_and, and_true, or_false, false_or, or_true, true_or, not_true_eq_false, not_false_eq_true, Nat.zero_add, Nat.add_zero, Nat.le_refl, Nat.lt_irrefl, Nat.zero_lt_succ, Nat.zero_le, forall_const, List.cons.injEq, Value.int.injEq, Value.ref.injEq, Value.long.injEq, and_assoc, exists_and_left, exists_eq_left']
          try simp only [forall_eq]
          have hs2D : Sm (XD q) M M2 := hs.tr (hs2.mono fun _ _ e => XP_D (XF_P e))
          have hd2 : dv M2 q = wr1 X D k := by rw [← hd]; exact dv_P (hs2.mono fun _ _ e => XF_P e) hqd hqd hq1.n
          have hlt2 : k < dn (dv M2 q) := by rw [hd2, hn1]; exact hlt
          refine ⟨so, ?_⟩
          refine hK7 (dn D - (k + 1)) _ _ _ (by omega) ?_
          rw [hI7]
          refine ⟨k + 1, by rw [nI_1], rfl, by omega, rfl, hs2D.set _ (Or.inl (by omega)), ?_⟩
          rw [dv_set (by omega) hlt2, hd2, wr1_s, if_pos y0, min_app, kk 4 (by omega), hd, (hX1 k).1, wea_wr1 (Nat.le_refl _), wr1_ge (Nat.le_refl _)]
          rfl
    refine s_of (fun lv st M0 hs => ?_) (WX0_wearOn_0 C (by decide) (t_X0_whole hg) (by decide) (t_X0_wears hg) (by decide) (t_X0_stands hg) (by decide) L7 L73)
    obtain ⟨rfl, rfl, rfl⟩ := hs
    unfold BX0_wearOn_0
    generalize hB4 : BX0_wearOn_4 g Q (T_X0_whole g) (T_X0_wears g) (T_X0_stands g) E7 E73 = B4
    simp only [T_X0_whole, T_X0_wears, T_X0_stands, i_const, i_lconst, i_iload, i_aload, i_lload, i_istore, i_astore, i_lstore, i_iinc, i_bin, i_div, i_un, i_i2l, i_l2i, i_lbin, i_lcmp, i_if, i_icmp, i_dup, i_dup_x1, i_dup2, i_pop, i_geti, i_getr, i_getd, i_puti, i_putz, i_putd, i_iald, i_bald, i_aald, i_iast, i_bast, i_alen, i_keep, i_ret, i_retz, i_reta, i_retl, i_retv, i_callv, i_callk, i_calls, i_mm, i_copy, i_under, i_undld, i_ldcs, i_sw, q_swc0, q_swc1, q_lg0, q_lg1, q_lent0, q_lent1, lset, lset2, q_lins0, q_lins1, q_ldel0, q_ldel1, q_ldel20, q_ldel21, q_lkeep0, q_lkeep1, q_memb0, q_memb1, cat2, Nat.reduceBEq, decide_true, decide_false, decide_eq_true_eq, cond_true, cond_false, Bool.and_true, Bool.and_false, Bool.true_and, Bool.false_and, f_iadd, f_isub, f_imul, f_ishl, f_ishr, f_iushr, f_iand, f_ior, f_idiv, f_irem, f_ineg, f_i2b, f_i2s, f_ladd, f_lmul, c_eq, c_ne, c_lt, c_ge, c_gt, c_le, cc_eq, cc_ne, cc_lt, cc_ge, cc_gt, cc_le, rfo, aof, csum, Value.category, List.take, List.drop, List.reverse, List.reverseAux, List.map, List.sum_cons, List.sum_nil, List.cons_append, List.nil_append, Option.toList, List.mem_cons, List.not_mem_nil, List.length_cons, List.length_nil, reduceIte, Nat.reduceEqDiff, Nat.reduceAdd, Nat.reduceLeDiff, Nat.reduceLT, a_day, Nat.zero_ne_one, Nat.one_ne_zero, false_and, and_false, true_and, and_true, or_false, false_or, or_true, true_or, not_true_eq_false, not_false_eq_true, Nat.zero_add, Nat.add_zero, Nat.le_refl, Nat.lt_irrefl, Nat.zero_lt_succ, Nat.zero_le, forall_const, List.cons.injEq, Value.int.injEq, Value.ref.injEq, Value.long.injEq, and_assoc, exists_and_left, exists_eq_left']
    try simp only [forall_eq]
    refine ⟨og, ok, hqd, hq.many, hq.n, ?_⟩
    subst hB4
    unfold BX0_wearOn_4
    simp only [T_X0_whole, T_X0_wears, T_X0_stands, i_const, i_lconst, i_iload, i_aload, i_lload, i_istore, i_astore, i_lstore, i_iinc, i_bin, i_div, i_un, i_i2l, i_l2i, i_lbin, i_lcmp, i_if, i_icmp, i_dup, i_dup_x1, i_dup2, i_pop, i_geti, i_getr, i_getd, i_puti, i_putz, i_putd, i_iald, i_bald, i_aald, i_iast, i_bast, i_alen, i_keep, i_ret, i_retz, i_reta, i_retl, i_retv, i_callv, i_callk, i_calls, i_mm, i_copy, i_under, i_undld, i_ldcs, i_sw, q_swc0, q_swc1, q_lg0, q_lg1, q_lent0, q_lent1, lset, lset2, q_lins0, q_lins1, q_ldel0, q_ldel1, q_ldel20, q_ldel21, q_lkeep0, q_lkeep1, q_memb0, q_memb1, cat2, Nat.reduceBEq, decide_true, decide_false, decide_eq_true_eq, cond_true, cond_false, Bool.and_true, Bool.and_false, Bool.true_and, Bool.false_and, f_iadd, f_isub, f_imul, f_ishl, f_ishr, f_iushr, f_iand, f_ior, f_idiv, f_irem, f_ineg, f_i2b, f_i2s, f_ladd, f_lmul, c_eq, c_ne, c_lt, c_ge, c_gt, c_le, cc_eq, cc_ne, cc_lt, cc_ge, cc_gt, cc_le, rfo, aof, csum, Value.category, List.take, List.drop, List.reverse, List.reverseAux, List.map, List.sum_cons, List.sum_nil, List.cons_append, List.nil_append, Option.toList, List.mem_cons, List.not_mem_nil, List.length_cons, List.length_nil, reduceIte, Nat.reduceEqDiff, Nat.reduceAdd, Nat.reduceLeDiff, Nat.reduceLT, a_day, Nat.zero_ne_one, Nat.one_ne_zero, false_and, and_false, true_and, and_true, or_false, false_or, or_true, true_or, not_true_eq_false, not_false_eq_true, Nat.zero_add, Nat.add_zero, Nat.le_refl, Nat.lt_irrefl, Nat.zero_lt_succ, Nat.zero_le, forall_const, List.cons.injEq, Value.int.injEq, Value.ref.injEq, Value.long.injEq, and_assoc, exists_and_left, exists_eq_left']
    try simp only [forall_eq]
    refine iE7 (dn D - 0) _ _ _ ?_
    rw [hI7, hDe]
    exact ⟨0, rfl, rfl, by omega, rfl, Sm.rf, by rw [hDe, wr1_0]⟩
/-- a whole day of another -/
def addD (D : DV) (kind number f l : Int32) : DV := fun f' i => if f' = 7 ∧ i = 0 then nI (dn D + 1) else if i = dn D ∧ 0 < f' ∧ f' < 7 then (if f' = 1 then kind else if f' = 2 then number else if f' = 3 then f else if f' = 4 then l else 0) else D f' i
def T_X0_become (g : WG) (as : List Value) (M : MM) (Q : Option Value → MM → Prop) : Prop := ∃ (q q2 : Nat), as = [.ref q, .ref q2] ∧ isD q ∧ okD M q2 ∧ ¬ q = q2 ∧ ∀ M', Sm (XD q) M M' → dv M' q = dv M q2 → Q none M'
set_option maxRecDepth 100000 in
set_option maxHeartbeats 2000000 in
theorem t_X0_become {l : Launch} {g : WG} (hg : Full g) : Ct l g yX0_become cX0_become 3 ((Option.none : Option FieldType)) 2 (T_X0_become g) := by
  refine Ct.of (by decide) (fun as M Q h => ?_) (fun p e s m args below meth c as M Q h C => ?_)
  · obtain ⟨q, q2, rfl, hqd, hq2, hne, h⟩ := h; exact ⟨by simp, by simp [Value.category]⟩
  · obtain ⟨q, q2, rfl, hqd, hq2, hne, h⟩ := h
    obtain ⟨o1, o2, o3, o4, o5, ⟨l1, l2, l3, l4⟩, og, ok⟩ := day_ok hg hqd
    obtain ⟨p1, p2, p3, p4, p5, ⟨k1, k2, k3, k4⟩, pg, pk⟩ := day_ok hg hq2.1
    have hq2d := hq2.1
    have hn := hq2.n
    have h6 := hq2.many
    obtain ⟨t, ht, hr4, -, -⟩ := hq2.rule
    have far : ∀ a j, (q2 ≤ a ∧ a < q2 + 12) → ¬ XD q a j := by
      intro a j ha; unfold isD at hqd hq2d; unfold XD isPile; omega
    have hsame : ∀ M' : MM, Sm (XD q) M M' → ∀ a j, (q2 ≤ a ∧ a < q2 + 12) → M' a j = M a j := fun M' hs a j ha => hs a j (far a j ha)
    obtain ⟨I17, hI17⟩ : ∃ I : Nat → PP, I = (fun n lv st M' => ∃ k, lv = [(0, .ref q), (1, .ref q2), (2, .int (nI k))] ∧ st = [] ∧ k ≤ dn (dv M q2) ∧ n = dn (dv M q2) - k ∧ Sm (XD q) M M' ∧ (∀ j, j < 16 → M' (q + 1) j = M (q2 + 1) j) ∧ (∀ s j, s < k → j < 6 → M' (q + 5 + s) j = M (q2 + 5 + s) j)) := ⟨_, rfl⟩
    obtain ⟨E17, hE17⟩ : ∃ E : PP, E = (fun lv st M => ∃ n, I17 n lv st M) := ⟨_, rfl⟩
    have iE17 : ∀ n lv st M, I17 n lv st M → E17 lv st M := fun n lv st M h => by rw [hE17]; exact ⟨n, h⟩
    have L17 : Sj p l e 2 s m args below meth c 3 g (MQ below (cQc g Q) args s 0 0 (gA g)) 17 E17 := by
      rw [hE17]
      refine s_ex (s_loop I17 (fun K17 k17 => WX0_become_17 C (by decide) (t_X1_become hg) (by decide) k17) ?_)
      intro n lv st M1 K17 hK17 hI; rw [hI17] at hI; obtain ⟨k, rfl, rfl, hk, rfl, hs, hj, hse⟩ := hI
      unfold BX0_become_17
      generalize hB46 : BX0_become_46 g Q (T_X1_become g) K17 = B46
      simp only [T_X1_become, i_const, i_lconst, i_iload, i_aload, i_lload, i_istore, i_astore, i_lstore, i_iinc, i_bin, i_div, i_un, i_i2l, i_l2i, i_lbin, i_lcmp, i_if, i_icmp, i_dup, i_dup_x1, i_dup2, i_pop, i_geti, i_getr, i_getd, i_puti, i_putz, i_putd, i_iald, i_bald, i_aald, i_iast, i_bast, i_alen, i_keep, i_ret, i_retz, i_reta, i_retl, i_retv, i_callv, i_callk, i_calls, i_mm, i_copy, i_under, i_undld, i_ldcs, i_sw, q_swc0, q_swc1, q_lg0, q_lg1, q_lent0, q_lent1, lset, lset2, q_lins0, q_lins1, q_ldel0, q_ldel1, q_ldel20, q_ldel21, q_lkeep0, q_lkeep1, q_memb0, q_memb1, cat2, Nat.reduceBEq, decide_true, decide_false, decide_eq_true_eq, cond_true, cond_false, Bool.and_true, Bool.and_false, Bool.true_and, Bool.false_and, f_iadd, f_isub, f_imul, f_ishl, f_ishr, f_iushr, f_iand, f_ior, f_idiv, f_irem, f_ineg, f_i2b, f_i2s, f_ladd, f_lmul, c_eq, c_ne, c_lt, c_ge, c_gt, c_le, cc_eq, cc_ne, cc_lt, cc_ge, cc_gt, cc_le, rfo, aof, csum, Value.category, List.take, List.drop, List.reverse, List.reverseAux, List.map, List.sum_cons, List.sum_nil, List.cons_append, List.nil_append, Option.toList, List.mem_cons, List.not_mem_nil, List.length_cons, List.length_nil, reduceIte, Nat.reduceEqDiff, Nat.reduceAdd, Nat.reduceLeDiff, Nat.reduceLT, a_day, Nat.zero_ne_one, Nat.one_ne_zero, false_and, and_false, true_and, and_true, or_false, false_or, or_true, true_or, not_true_eq_false, not_false_eq_true, Nat.zero_add, Nat.add_zero, Nat.le_refl, Nat.lt_irrefl, Nat.zero_lt_succ, Nat.zero_le, forall_const, List.cons.injEq, Value.int.injEq, Value.ref.injEq, Value.long.injEq, and_assoc, exists_and_left, exists_eq_left']
      try simp only [forall_eq]
      have e6 : M1 q2 6 = nI (dn (dv M q2)) := by rw [hsame M1 hs q2 6 (by omega), h6]
      rw [e6]
      refine ⟨p1, fun z => ?_, fun z => ?_⟩
      · have hkk : k = dn (dv M q2) := by
          have := (nI_leI (a := dn (dv M q2)) (b := k) (by omega) (by omega)).mp z
          omega
        have hrd : rdv (M1 q2 4) = .ref (8 + 4 * t) := by rw [hsame M1 hs q2 4 (by omega), hr4]; exact rdv_n (by omega)
        have hqq : ¬ q2 = q := fun e => hne e.symm
        subst hB46
        unfold BX0_become_46
        simp only [T_X1_become, hrd, i_const, i_lconst, i_iload, i_aload, i_lload, i_istore, i_astore, i_lstore, i_iinc, i_bin, i_div, i_un, i_i2l, i_l2i, i_lbin, i_lcmp, i_if, i_icmp, i_dup, i_dup_x1, i_dup2, i_pop, i_geti, i_getr, i_getd, i_puti, i_putz, i_putd, i_iald, i_bald, i_aald, i_iast, i_bast, i_alen, i_keep, i_ret, i_retz, i_reta, i_retl, i_retv, i_callv, i_callk, i_calls, i_mm, i_copy, i_under, i_undld, i_ldcs, i_sw, q_swc0, q_swc1, q_lg0, q_lg1, q_lent0, q_lent1, lset, lset2, q_lins0, q_lins1, q_ldel0, q_ldel1, q_ldel20, q_ldel21, q_lkeep0, q_lkeep1, q_memb0, q_memb1, cat2, Nat.reduceBEq, decide_true, decide_false, decide_eq_true_eq, cond_true, cond_false, Bool.and_true, Bool.and_false, Bool.true_and, Bool.false_and, f_iadd, f_isub, f_imul, f_ishl, f_ishr, f_iushr, f_iand, f_ior, f_idiv, f_irem, f_ineg, f_i2b, f_i2s, f_ladd, f_lmul, c_eq, c_ne, c_lt, c_ge, c_gt, c_le, cc_eq, cc_ne, cc_lt, cc_ge, cc_gt, cc_le, rfo, aof, csum, Value.category, List.take, List.drop, List.reverse, List.reverseAux, List.map, List.sum_cons, List.sum_nil, List.cons_append, List.nil_append, Option.toList, List.mem_cons, List.not_mem_nil, List.length_cons, List.length_nil, reduceIte, Nat.reduceEqDiff, Nat.reduceAdd, Nat.reduceLeDiff, Nat.reduceLT, a_day, Nat.zero_ne_one, Nat.one_ne_zero, false_and, and_false, true_and, and_true, or_false, false_or, or_true, true_or, not_true_eq_false, not_false_eq_true, Nat.zero_add, Nat.add_zero, Nat.le_refl, Nat.lt_irrefl, Nat.zero_lt_succ, Nat.zero_le, forall_const, List.cons.injEq, Value.int.injEq, Value.ref.injEq, Value.long.injEq, and_assoc, exists_and_left, exists_eq_left']
        try simp only [forall_eq]
        refine ⟨p1, o1, (show 8 + 4 * t < 1000 by omega), p1, o1, p1, o1, ?_⟩
        have e5 : M1 q2 5 = M q2 5 := hsame M1 hs q2 5 (by omega)
        simp only [mset_app, hqq, if_false, e5, e6]
        refine h _ (((hs.set _ (Or.inl (by omega))).set _ (Or.inl (by omega))).set _ (Or.inl (by omega))) ?_
        have a1 : ¬ q + 1 = q := by omega
        have a2 : ∀ i, ¬ q + 5 + i = q := by intro i; omega
        funext f i
        simp only [dv, mset_app, a1, a2, if_false, if_true]
        rw [hr4, h6]
        have hcl : (nI (dn (dv M q2))).toNatClampNeg = dn (dv M q2) := nI_clamp (by omega)
        by_cases h0 : f = 0
        · subst h0
          by_cases hi : i < 16
          · simp [hi, hj i hi]
          · simp [hi]
        · by_cases h7 : f < 7
          · simp only [h0, h7, if_true, if_false, hcl]
            by_cases hi : i < dn (dv M q2)
            · simp only [hi, if_true]; exact hse i (f - 1) (by omega) (by omega)
            · simp [hi]
          · by_cases h77 : f = 7
            · subst h77
              by_cases i0 : i = 0
              · subst i0; simp
              · by_cases i1 : i = 1
                · subst i1; simp
                · by_cases i2 : i = 2
                  · subst i2; simp
                  · simp [i0, i1, i2]
            · simp [h0, h7, h77]
      · have hlt : k < dn (dv M q2) := by
          rcases Nat.lt_or_ge k (dn (dv M q2)) with w | w
          · exact w
          · exact absurd (nI_le w (by omega)) z
        rw [nI_clamp (by omega)]
        have so := seam_ok (s := k) hg hqd (by omega)
        have so2 := seam_ok (s := k) hg hq2d (by omega)
        have hb : M1 (q2 + 5 + k) 5 = dv M q2 6 k := by rw [hsame M1 hs _ _ (by omega)]; exact (dv_s 5 (by omega) hlt).symm
        have vi : vp_in (nI k) (ln (q + 2)) := vp_in_nI (by omega) (by omega)
        have vi2 : vp_in (nI k) (ln (q2 + 2)) := vp_in_nI (by omega) (by omega)
        refine ⟨o1, o3, vi, p1, p3, vi2, so.1, so.2.1, so, so2, by unfold isD at hqd hq2d; omega, by rw [hb]; exact (hq2.seam hlt).2.2.2.2.2.1, fun M2 hs2 hv2 => ?_⟩
        refine hK17 (dn (dv M q2) - (k + 1)) _ _ _ (by omega) ?_
        rw [hI17]
        refine ⟨k + 1, by rw [nI_1], rfl, by omega, rfl, hs.tr (hs2.mono fun a _ e => Or.inl (by omega)), fun j hj1 => ?_, fun s j hs3 hj1 => ?_⟩
        · rw [hs2 (q + 1) j (by show ¬ q + 1 = q + 5 + k; omega)]; exact hj j hj1
        · by_cases e : s = k
          · subst e; rw [hv2 j hj1]; exact hsame M1 hs _ _ (by omega)
          · rw [hs2 (q + 5 + s) j (by show ¬ q + 5 + s = q + 5 + k; omega)]; exact hse s j (by omega) hj1
    refine s_of (fun lv st M0 hs => ?_) (WX0_become_0 C (by decide) (t_X1_become hg) (by decide) L17)
    obtain ⟨rfl, rfl, rfl⟩ := hs
    unfold BX0_become_0
    simp only [T_X1_become, i_const, i_lconst, i_iload, i_aload, i_lload, i_istore, i_astore, i_lstore, i_iinc, i_bin, i_div, i_un, i_i2l, i_l2i, i_lbin, i_lcmp, i_if, i_icmp, i_dup, i_dup_x1, i_dup2, i_pop, i_geti, i_getr, i_getd, i_puti, i_putz, i_putd, i_iald, i_bald, i_aald, i_iast, i_bast, i_alen, i_keep, i_ret, i_retz, i_reta, i_retl, i_retv, i_callv, i_callk, i_calls, i_mm, i_copy, i_under, i_undld, i_ldcs, i_sw, q_swc0, q_swc1, q_lg0, q_lg1, q_lent0, q_lent1, lset, lset2, q_lins0, q_lins1, q_ldel0, q_ldel1, q_ldel20, q_ldel21, q_lkeep0, q_lkeep1, q_memb0, q_memb1, cat2, Nat.reduceBEq, decide_true, decide_false, decide_eq_true_eq, cond_true, cond_false, Bool.and_true, Bool.and_false, Bool.true_and, Bool.false_and, f_iadd, f_isub, f_imul, f_ishl, f_ishr, f_iushr, f_iand, f_ior, f_idiv, f_irem, f_ineg, f_i2b, f_i2s, f_ladd, f_lmul, c_eq, c_ne, c_lt, c_ge, c_gt, c_le, cc_eq, cc_ne, cc_lt, cc_ge, cc_gt, cc_le, rfo, aof, csum, Value.category, List.take, List.drop, List.reverse, List.reverseAux, List.map, List.sum_cons, List.sum_nil, List.cons_append, List.nil_append, Option.toList, List.mem_cons, List.not_mem_nil, List.length_cons, List.length_nil, reduceIte, Nat.reduceEqDiff, Nat.reduceAdd, Nat.reduceLeDiff, Nat.reduceLT, a_day, Nat.zero_ne_one, Nat.one_ne_zero, false_and, and_false, true_and, and_true, or_false, false_or, or_true, true_or, not_true_eq_false, not_false_eq_true, Nat.zero_add, Nat.add_zero, Nat.le_refl, Nat.lt_irrefl, Nat.zero_lt_succ, Nat.zero_le, forall_const, List.cons.injEq, Value.int.injEq, Value.ref.injEq, Value.long.injEq, and_assoc, exists_and_left, exists_eq_left']
    try simp only [forall_eq]
    have z0 : (0 : Int32).toNatClampNeg = 0 := rfl
    have z16 : (16 : Int32).toNatClampNeg = 16 := rfl
    refine ⟨p1, o1, p2, o2, by decide, by decide, by decide, by rw [z0, z16, k1]; decide, by rw [z0, z16, l1]; decide, ?_⟩
    refine iE17 (dn (dv M0 q2) - 0) _ _ _ ?_
    rw [hI17, z0, z16]
    refine ⟨0, rfl, rfl, by omega, rfl, ?_, ?_, fun s j hs => absurd hs (by omega)⟩
    · intro a b hx
      have : ¬ a = q + 1 := fun e => hx (Or.inl (by omega))
      simp [mcpy, this]
    · intro j hj
      simp only [mcpy, if_true, va_cpy]
      rw [if_pos (by omega)]; congr 1; omega
def T_X0_add (g : WG) (as : List Value) (M : MM) (Q : Option Value → MM → Prop) : Prop := ∃ (q : Nat) (kind number f l : Int32), as = [.ref q, .int kind, .int number, .int f, .int l] ∧ isD q ∧ M q 6 = nI (dn (dv M q)) ∧ dn (dv M q) ≤ 6 ∧ ∀ M', Sm (XD q) M M' → dv M' q = addD (dv M q) kind number f l → Q (some (.ref (q + 5 + dn (dv M q)))) M'
set_option maxRecDepth 100000 in
set_option maxHeartbeats 1000000 in
theorem t_X0_add {l : Launch} {g : WG} (hg : Full g) : Ct l g yX0_add cX0_add 6 ((Option.some (FieldType.object "SewsUpTheAfternoon$Seam"))) 2 (T_X0_add g) := by
  refine Ct.of (by decide) (fun as M Q h => ?_) (fun p e s m args below meth c as M Q h C => ?_)
  · obtain ⟨q, kind, number, f, l', rfl, hqd, h6, hn, h⟩ := h; exact ⟨by simp, by simp [Value.category]⟩
  · obtain ⟨q, kind, number, f, l', rfl, hqd, h6, hn, h⟩ := h
    obtain ⟨o1, o2, o3, o4, o5, ⟨l1, l2, l3, l4⟩, og, ok⟩ := day_ok hg hqd
    have hmin : f_min (nI (dn (dv M q))) 6 = nI (dn (dv M q)) := by
      rw [min_app]
      exact if_neg (nI_nlt (a := 6) hn (by omega))
    refine s_of (fun lv st M0 hs => ?_) (WX0_add_0 C (by decide) (t_X1_sewUp hg) (by decide))
    obtain ⟨rfl, rfl, rfl⟩ := hs
    unfold BX0_add_0
    generalize hB48 : BX0_add_48 g Q (T_X1_sewUp g) = B48
    simp only [T_X1_sewUp, i_const, i_lconst, i_iload, i_aload, i_lload, i_istore, i_astore, i_lstore, i_iinc, i_bin, i_div, i_un, i_i2l, i_l2i, i_lbin, i_lcmp, i_if, i_icmp, i_dup, i_dup_x1, i_dup2, i_pop, i_geti, i_getr, i_getd, i_puti, i_putz, i_putd, i_iald, i_bald, i_aald, i_iast, i_bast, i_alen, i_keep, i_ret, i_retz, i_reta, i_retl, i_retv, i_callv, i_callk, i_calls, i_mm, i_copy, i_under, i_undld, i_ldcs, i_sw, q_swc0, q_swc1, q_lg0, q_lg1, q_lent0, q_lent1, lset, lset2, q_lins0, q_lins1, q_ldel0, q_ldel1, q_ldel20, q_ldel21, q_lkeep0, q_lkeep1, q_memb0, q_memb1, cat2, Nat.reduceBEq, decide_true, decide_false, decide_eq_true_eq, cond_true, cond_false, Bool.and_true, Bool.and_false, Bool.true_and, Bool.false_and, f_iadd, f_isub, f_imul, f_ishl, f_ishr, f_iushr, f_iand, f_ior, f_idiv, f_irem, f_ineg, f_i2b, f_i2s, f_ladd, f_lmul, c_eq, c_ne, c_lt, c_ge, c_gt, c_le, cc_eq, cc_ne, cc_lt, cc_ge, cc_gt, cc_le, rfo, aof, csum, Value.category, List.take, List.drop, List.reverse, List.reverseAux, List.map, List.sum_cons, List.sum_nil, List.cons_append, List.nil_append, Option.toList, List.mem_cons, List.not_mem_nil, List.length_cons, List.length_nil, reduceIte, Nat.reduceEqDiff, Nat.reduceAdd, Nat.reduceLeDiff, Nat.reduceLT, a_day, Nat.zero_ne_one, Nat.one_ne_zero, false_and, and_false, true_and, and_true, or_false, false_or, or_true, true_or, not_true_eq_false, not_false_eq_true, Nat.zero_add, Nat.add_zero, Nat.le_refl, Nat.lt_irrefl, Nat.zero_lt_succ, Nat.zero_le, forall_const, List.cons.injEq, Value.int.injEq, Value.ref.injEq, Value.long.injEq, and_assoc, exists_and_left, exists_eq_left']
    try simp only [forall_eq]
    rw [h6, hmin, nI_clamp (by omega)]
    have so := seam_ok (s := dn (dv M0 q)) hg hqd (by omega)
    refine ⟨o1, o1, o3, vp_in_nI (by omega) (by omega), so, so, so, so, so.1, so.2.1, so, ?_⟩
    subst hB48
    unfold BX0_add_48
    simp only [T_X1_sewUp, i_const, i_lconst, i_iload, i_aload, i_lload, i_istore, i_astore, i_lstore, i_iinc, i_bin, i_div, i_un, i_i2l, i_l2i, i_lbin, i_lcmp, i_if, i_icmp, i_dup, i_dup_x1, i_dup2, i_pop, i_geti, i_getr, i_getd, i_puti, i_putz, i_putd, i_iald, i_bald, i_aald, i_iast, i_bast, i_alen, i_keep, i_ret, i_retz, i_reta, i_retl, i_retv, i_callv, i_callk, i_calls, i_mm, i_copy, i_under, i_undld, i_ldcs, i_sw, q_swc0, q_swc1, q_lg0, q_lg1, q_lent0, q_lent1, lset, lset2, q_lins0, q_lins1, q_ldel0, q_ldel1, q_ldel20, q_ldel21, q_lkeep0, q_lkeep1, q_memb0, q_memb1, cat2, Nat.reduceBEq, decide_true, decide_false, decide_eq_true_eq, cond_true, cond_false, Bool.and_true, Bool.and_false, Bool.true_and, Bool.false_and, f_iadd, f_isub, f_imul, f_ishl, f_ishr, f_iushr, f_iand, f_ior, f_idiv, f_irem, f_ineg, f_i2b, f_i2s, f_ladd, f_lmul, c_eq, c_ne, c_lt, c_ge, c_gt, c_le, cc_eq, cc_ne, cc_lt, cc_ge, cc_gt, cc_le, rfo, aof, csum, Value.category, List.take, List.drop, List.reverse, List.reverseAux, List.map, List.sum_cons, List.sum_nil, List.cons_append, List.nil_append, Option.toList, List.mem_cons, List.not_mem_nil, List.length_cons, List.length_nil, reduceIte, Nat.reduceEqDiff, Nat.reduceAdd, Nat.reduceLeDiff, Nat.reduceLT, a_day, Nat.zero_ne_one, Nat.one_ne_zero, false_and, and_false, true_and, and_true, or_false, false_or, or_true, true_or, not_true_eq_false, not_false_eq_true, Nat.zero_add, Nat.add_zero, Nat.le_refl, Nat.lt_irrefl, Nat.zero_lt_succ, Nat.zero_le, forall_const, List.cons.injEq, Value.int.injEq, Value.ref.injEq, Value.long.injEq, and_assoc, exists_and_left, exists_eq_left']
    try simp only [forall_eq]
    have hqq : ¬ q = q + 5 + dn (dv M0 q) := by omega
    simp only [mset_app, hqq, if_false, h6, hmin]
    refine ⟨o1, o1, ?_⟩
    have xd : ∀ j, XD q (q + 5 + dn (dv M0 q)) j := fun j => Or.inl (by omega)
    refine h _ ?_ ?_
    · exact ((((((Sm.rf.set _ (xd _)).set _ (xd _)).set _ (xd _)).set _ (xd _)).set _ (xd _)).set _ (xd _)).set _ (Or.inl (by omega))
    · have a1 : ¬ q + 1 = q := by omega
      have a2 : ∀ i, ¬ q + 5 + i = q := by intro i; omega
      have a3 : ¬ q + 1 = q + 5 + dn (dv M0 q) := by omega
      have hcl : (nI (dn (dv M0 q)) + 1).toNatClampNeg = dn (dv M0 q) + 1 := by rw [nI_1, nI_clamp (by omega)]
      funext f' i
      simp only [dv, mset_app, a1, a2, a3, hqq, if_false, if_true]
      by_cases h0 : f' = 0
      · subst h0
        simp [addD, dv]
      · by_cases h7 : f' < 7
        · simp only [h0, h7, if_true, if_false, hcl]
          have h70 : ¬ f' = 7 := by omega
          by_cases hi : i = dn (dv M0 q)
          · subst hi
            have hf0 : 0 < f' := by omega
            simp only [addD, h70, false_and, if_false, hf0, h7, and_self, if_true, Nat.lt_succ_self]
            have : f' = 1 ∨ f' = 2 ∨ f' = 3 ∨ f' = 4 ∨ f' = 5 ∨ f' = 6 := by omega
            rcases this with rfl | rfl | rfl | rfl | rfl | rfl <;> simp
          · have hne2 : ¬ q + 5 + i = q + 5 + dn (dv M0 q) := by omega
            simp only [addD, h70, false_and, if_false, hi, hne2, dv, h0, h7, if_true]
            rw [dv_n] at hi ⊢
            by_cases hl : i < (M0 q 6).toNatClampNeg
            · have : i < (M0 q 6).toNatClampNeg + 1 := by omega
              simp [hl, this]
            · have : ¬ i < (M0 q 6).toNatClampNeg + 1 := by omega
              simp [hl, this]
        · by_cases h77 : f' = 7
          · subst h77
            by_cases i0 : i = 0
            · subst i0; simp [addD, nI_1]
            · simp [addD, i0, dv]
          · simp [addD, h0, h7, h77, dv]
    
