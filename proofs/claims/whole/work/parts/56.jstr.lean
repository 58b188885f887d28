/-! ===== the JDK's strings ===== -/
theorem fk_J0_9 : Cond.fieldLink RJ0 9 RJ0 "value" "[B" ∈ TT := tmem 1260 (by decide +kernel) (by decide +kernel)
theorem fk_J0_15 : Cond.fieldLink RJ0 15 RJ0 "coder" "B" ∈ TT := tmem 1261 (by decide +kernel) (by decide +kernel)
theorem fk_J0_38 : Cond.fieldLink RJ0 38 RJ0 "COMPACT_STRINGS" "Z" ∈ TT := tmem 211 (by decide +kernel) (by decide +kernel)
theorem fk_J0_1053 : Cond.fieldLink RJ0 1053 RJ3 "SIOOBE_FORMATTER" "Ljava/util/function/BiFunction;" ∈ TT := tmem 227 (by decide +kernel) (by decide +kernel)
theorem mk_J0_335 : Cond.methodLink RJ0 335 yJ0_coder_7d493 ∈ TT := tmem 207 (by decide +kernel) (by decide +kernel)
theorem mk_J0_492 : Cond.methodLink RJ0 492 yJ0_isLatin1_aae02 ∈ TT := tmem 217 (by decide +kernel) (by decide +kernel)
theorem mk_J0_495 : Cond.methodLink RJ0 495 yJ1_charAt_3b067 ∈ TT := tmem 221 (by decide +kernel) (by decide +kernel)
theorem mk_J1_9 : Cond.methodLink RJ1 9 yJ0_checkIndex_df160 ∈ TT := tmem 224 (by decide +kernel) (by decide +kernel)
theorem mk_J0_1059 : Cond.methodLink RJ0 1059 yJ3_checkIndex_8e157 ∈ TT := tmem 229 (by decide +kernel) (by decide +kernel)
theorem st_J1c : Cond.static yJ1_charAt_3b067 ∈ TT := tmem 222 (by decide +kernel) (by decide +kernel)
theorem st_J3c : Cond.static yJ3_checkIndex_8e157 ∈ TT := tmem 230 (by decide +kernel) (by decide +kernel)
theorem co_J1c : Cond.code yJ1_charAt_3b067 cJ1_charAt_3b067 2 (Option.some FieldType.char) ∈ TT := tmem 223 (by decide +kernel) (by decide +kernel)
theorem co_J3c : Cond.code yJ3_checkIndex_8e157 cJ3_checkIndex_8e157 3 (Option.some FieldType.int) ∈ TT := tmem 231 (by decide +kernel) (by decide +kernel)
def i_sfv (K : PP) (lv : List (Nat × Value)) (st : List Value) (M : MM) : Prop := match st with | .ref q :: r => ∃ i : Nat, i < 13 ∧ q = 200 + i ∧ K lv (.ref (300 + i) :: r) M | _ => False
def i_sfc (K : PP) (lv : List (Nat × Value)) (st : List Value) (M : MM) : Prop := match st with | .ref q :: r => ∃ i : Nat, i < 13 ∧ q = 200 + i ∧ K lv (.int 0 :: r) M | _ => False
def i_stc (K : PP) (lv : List (Nat × Value)) (st : List Value) (M : MM) : Prop := K lv (.int 1 :: st) M
def i_stf (K : PP) (lv : List (Nat × Value)) (st : List Value) (M : MM) : Prop := K lv (.null :: st) M ∧ K lv (.ref 1003 :: st) M
def i_slen (K : PP) (lv : List (Nat × Value)) (st : List Value) (M : MM) : Prop := match st with | .ref q :: r => ∃ i : Nat, i < 13 ∧ q = 300 + i ∧ K lv (.int (nI (lenS.getD i 0)) :: r) M | _ => False
def i_sbld (K : PP) (lv : List (Nat × Value)) (st : List Value) (M : MM) : Prop := match st with | .int x :: .ref q :: r => ∃ i : Nat, i < 13 ∧ q = 300 + i ∧ vp_in x (lenS.getD i 0) ∧ K lv (.int ((bytS.getD i []).getD x.toNatClampNeg 0) :: r) M | _ => False
def f_i2c : Int32 → Int32 := fun x => (x.toUInt32 % 65536).toInt32
def i_retn (ty : FieldType) (Q : Option Value → MM → Prop) (lv : List (Nat × Value)) (st : List Value) (M : MM) : Prop := match st with | [.int v] => narrow ty (.int v) = .int v ∧ Q (some (.int v)) M | _ => False
section STR
variable {p : Program} {l : Launch} {e : Env} {d : Nat} {s : State} {m : MethodId} {args : Array Value} {below : List Frame} {meth : Method} {c : Code} {cc : ByteArray} {nL : Nat} {own : String} {ret : Option FieldType} {g : WG} {Qf : State → Prop} {pc : Nat} {K : PP}
theorem s_sfv (C : Cx p s m args meth c cc nL RJ0 ret g) (hd : decode cc pc = .ok (.getfield 9, 3)) (kk : Sj p l e d s m args below meth c nL g Qf (pc + 3) K) : Sj p l e d s m args below meth c nL g Qf pc (i_sfv K) := by
  intro lv st M H locs ls h hl hP hD hS
  unfold i_sfv at h
  split at h
  · next q r =>
    obtain ⟨i, hi, rfl, h⟩ := h
    exact vk_getf C.1 C.2.1 (C.2.2.2.2.2.2.2.2.2.2.1.1 i hi).2.2.1 hS C.2.2.2.1 (C.2.2.2.2.1 _ fk_J0_9) (fun _ h => h) hd (kk _ _ _ _ _ _ h hl hP hD hS)
  · exact h.elim
theorem s_sfc (C : Cx p s m args meth c cc nL RJ0 ret g) (hd : decode cc pc = .ok (.getfield 15, 3)) (kk : Sj p l e d s m args below meth c nL g Qf (pc + 3) K) : Sj p l e d s m args below meth c nL g Qf pc (i_sfc K) := by
  intro lv st M H locs ls h hl hP hD hS
  unfold i_sfc at h
  split at h
  · next q r =>
    obtain ⟨i, hi, rfl, h⟩ := h
    exact vk_getf C.1 C.2.1 (C.2.2.2.2.2.2.2.2.2.2.1.1 i hi).2.1 hS C.2.2.2.1 (C.2.2.2.2.1 _ fk_J0_15) (fun _ h => h) hd (kk _ _ _ _ _ _ h hl hP hD hS)
  · exact h.elim
theorem s_stc (C : Cx p s m args meth c cc nL RJ0 ret g) (hd : decode cc pc = .ok (.getstatic 38, 3)) (kk : Sj p l e d s m args below meth c nL g Qf (pc + 3) K) : Sj p l e d s m args below meth c nL g Qf pc (i_stc K) :=
  fun lv st M H locs ls h hl hP hD hS => va_gets C.1 C.2.1 C.2.2.2.2.2.2.2.2.2.2.2.2.1 hS C.2.2.2.1 (C.2.2.2.2.1 _ fk_J0_38) (fun _ h => h) hd (kk _ _ _ _ _ _ h hl hP hD hS)
theorem s_stf (C : Cx p s m args meth c cc nL RJ0 ret g) (hd : decode cc pc = .ok (.getstatic 1053, 3)) (kk : Sj p l e d s m args below meth c nL g Qf (pc + 3) K) : Sj p l e d s m args below meth c nL g Qf pc (i_stf K) := by
  intro lv st M H locs ls h hl hP hD hS
  have hZ := C.2.2.2.2.2.2.2.2.2.2.2.2.2.1
  unfold fmtE at hZ
  by_cases h0 : gad g 1001 = 0
  · rw [if_pos h0] at hZ
    exact va_gets (v := ev g .null) C.1 C.2.1 hZ hS C.2.2.2.1 (C.2.2.2.2.1 _ fk_J0_1053) (fun _ h => h) hd (kk _ _ _ _ _ _ h.1 hl hP hD hS)
  · rw [if_neg h0] at hZ
    exact va_gets (v := ev g (.ref 1003)) C.1 C.2.1 hZ hS C.2.2.2.1 (C.2.2.2.2.1 _ fk_J0_1053) (fun _ h => h) hd (kk _ _ _ _ _ _ h.2 hl hP hD hS)
theorem s_slen (C : Cx p s m args meth c cc nL own ret g) (hd : decode cc pc = .ok (.arraylength, 1)) (kk : Sj p l e d s m args below meth c nL g Qf (pc + 1) K) : Sj p l e d s m args below meth c nL g Qf pc (i_slen K) := by
  intro lv st M H locs ls h hl hP hD hS
  unfold i_slen at h
  split at h
  · next q r =>
    obtain ⟨i, hi, rfl, h⟩ := h
    exact va_tlen C.1 C.2.1 (C.2.2.2.2.2.2.2.2.2.2.1.1 i hi).2.2.2 hS (v := nI (lenS.getD i 0)) rfl hd (kk _ _ _ _ _ _ h hl hP hD hS)
  · exact h.elim
theorem s_sbld (C : Cx p s m args meth c cc nL own ret g) (hd : decode cc pc = .ok (.baload, 1)) (kk : Sj p l e d s m args below meth c nL g Qf (pc + 1) K) : Sj p l e d s m args below meth c nL g Qf pc (i_sbld K) := by
  intro lv st M H locs ls h hl hP hD hS
  unfold i_sbld at h
  split at h
  · next x q r =>
    obtain ⟨i, hi, rfl, hin, h⟩ := h
    exact va_tb C.1 C.2.1 (C.2.2.2.2.2.2.2.2.2.2.1.1 i hi).2.2.2 hS hin rfl hd (kk _ _ _ _ _ _ h hl hP hD hS)
  · exact h.elim
theorem s_i2c (C : Cx p s m args meth c cc nL own ret g) (hd : decode cc pc = .ok (.i2c, 1)) (kk : Sj p l e d s m args below meth c nL g Qf (pc + 1) K) : Sj p l e d s m args below meth c nL g Qf pc (i_un f_i2c K) := by
  intro lv st M H locs ls h hl hP hD hS
  unfold i_un at h
  split at h
  · exact lv_i2c C.1 C.2.1 hd rfl (kk _ _ _ _ _ _ (h _ rfl) hl hP hD hS)
  · exact h.elim
theorem s_retn {ty : FieldType} (C : Cx p s m args meth c cc nL own (some ty) g) {Q : Option Value → MM → Prop} (hd : decode cc pc = .ok (.ireturn, 1)) : Sj p l e d s m args below meth c nL g (MQ below (cQc g Q) args s 0 0 (gA g)) pc (i_retn ty Q) := by
  intro lv st M H locs ls h hl hP hD hS
  unfold i_retn at h
  split at h
  · next v => exact W.zret C.1 C.2.1 C.2.2.2.2.2.1 h.1 (fun t ht hW => ⟨some (.int v), M, rfl, h.2, by rw [ht]; exact hP, hS.F ht⟩) hS.2.2 hd C.2.2.2.2.2.2.1
  · exact h.elim
end STR
def T_J0_coder (g : WG) (as : List Value) (M : MM) (Q : Option Value → MM → Prop) : Prop := ∃ i : Nat, as = [.ref (200 + i)] ∧ i < 13 ∧ Q (some (.int 0)) M
def T_J0_isLatin1 (g : WG) (as : List Value) (M : MM) (Q : Option Value → MM → Prop) : Prop := ∃ i : Nat, as = [.ref (200 + i)] ∧ i < 13 ∧ Q (some (.int 1)) M
def T_J0_length_8abf5 (g : WG) (as : List Value) (M : MM) (Q : Option Value → MM → Prop) : Prop := ∃ i : Nat, as = [.ref (200 + i)] ∧ i < 13 ∧ Q (some (.int (nI (lenS.getD i 0)))) M
def T_J3_checkIndex (g : WG) (as : List Value) (M : MM) (Q : Option Value → MM → Prop) : Prop := ∃ (a b : Nat) (r : Value), as = [.int (nI a), .int (nI b), r] ∧ r.category = 1 ∧ a < b ∧ b < 2 ^ 31 ∧ Q (some (.int (nI a))) M
def T_J0_checkIndex (g : WG) (as : List Value) (M : MM) (Q : Option Value → MM → Prop) : Prop := ∃ a b : Nat, as = [.int (nI a), .int (nI b)] ∧ a < b ∧ b < 2 ^ 31 ∧ Q none M
def T_J1_charAt (g : WG) (as : List Value) (M : MM) (Q : Option Value → MM → Prop) : Prop := ∃ i k : Nat, as = [.ref (300 + i), .int (nI k)] ∧ i < 13 ∧ k < lenS.getD i 0 ∧ Q (some (.int ((bytS.getD i []).getD k 0))) M
def T_J0_charAt_5068e (g : WG) (as : List Value) (M : MM) (Q : Option Value → MM → Prop) : Prop := ∃ i k : Nat, as = [.ref (200 + i), .int (nI k)] ∧ i < 13 ∧ k < lenS.getD i 0 ∧ Q (some (.int ((bytS.getD i []).getD k 0))) M
theorem ch_ok : ∀ i, i < 13 → ∀ k, k < 46 → (((bytS.getD i []).getD k 0 &&& 255).toUInt32 % 65536).toInt32 = (bytS.getD i []).getD k 0 ∧ narrow .char (.int ((bytS.getD i []).getD k 0)) = .int ((bytS.getD i []).getD k 0) := by decide +kernel
theorem shr0 {n : Nat} (h : n < 2 ^ 31) : nI n >>> ((0 : Int32) &&& 31) = nI n := by
  rw [pk_shrN h _ 0 (by decide)]; simp
theorem len_46 : ∀ i, i < 13 → lenS.getD i 0 ≤ 46 := by decide +kernel
set_option maxRecDepth 100000 in
theorem t_J0_coder {l : Launch} {g : WG} : Ct l g yJ0_coder_7d493 cJ0_coder_7d493 1 (some .byte) 1 (T_J0_coder g) := by
  refine Ct.of (by decide) (fun as M Q h => ?_) (fun p e s m args below meth c as M Q h C => ?_)
  · obtain ⟨i, rfl, hi, h⟩ := h; exact ⟨by simp, by simp [Value.category]⟩
  · obtain ⟨i, rfl, hi, h⟩ := h
    refine s_of (fun lv st M0 hs => ?_) (s_stc C dJ0_coder_7d493_0 (s_if_eq C dJ0_coder_7d493_3 (by decide) (s_F (pc := 13)) (s_aload_n C 0 dJ0_coder_7d493_6 rfl (s_sfc C dJ0_coder_7d493_7 (s_goto C dJ0_coder_7d493_10 (by decide) (s_retn C dJ0_coder_7d493_14))))))
    obtain ⟨rfl, rfl, rfl⟩ := hs
    simp only [i_sfv, i_sfc, i_stc, i_stf, i_slen, i_sbld, f_i2c, i_retn, i_const, i_lconst, i_iload, i_aload, i_lload, i_istore, i_astore, i_lstore, i_iinc, i_bin, i_div, i_un, i_i2l, i_l2i, i_lbin, i_lcmp, i_if, i_icmp, i_dup, i_dup_x1, i_dup2, i_pop, i_geti, i_getr, i_getd, i_puti, i_putz, i_putd, i_iald, i_bald, i_aald, i_iast, i_bast, i_alen, i_keep, i_ret, i_retz, i_reta, i_retl, i_retv, i_callv, i_callk, i_calls, i_mm, i_copy, i_under, i_undld, i_ldcs, i_sw, q_swc0, q_swc1, q_lg0, q_lg1, q_lent0, q_lent1, lset, lset2, q_lins0, q_lins1, q_ldel0, q_ldel1, q_ldel20, q_ldel21, q_lkeep0, q_lkeep1, q_memb0, q_memb1, cat2, Nat.reduceBEq, decide_true, decide_false, decide_eq_true_eq, cond_true, cond_false, Bool.and_true, Bool.and_false, Bool.true_and, Bool.false_and, f_iadd, f_isub, f_imul, f_ishl, f_ishr, f_iushr, f_iand, f_ior, f_idiv, f_irem, f_ineg, f_i2b, f_i2s, f_ladd, f_lmul, c_eq, c_ne, c_lt, c_ge, c_gt, c_le, cc_eq, cc_ne, cc_lt, cc_ge, cc_gt, cc_le, rfo, aof, csum, Value.category, List.take, List.drop, List.reverse, List.reverseAux, List.map, List.sum_cons, List.sum_nil, List.cons_append, List.nil_append, Option.toList, List.mem_cons, List.not_mem_nil, List.length_cons, List.length_nil, reduceIte, Nat.reduceEqDiff, Nat.reduceAdd, Nat.reduceLeDiff, Nat.reduceLT, a_day, Nat.zero_ne_one, Nat.one_ne_zero, false_and, and_false, true_and, and_true, or_false, false_or, or_true, true_or, not_true_eq_false, not_false_eq_true, Nat.zero_add, Nat.add_zero, Nat.le_refl, Nat.lt_irrefl, Nat.zero_lt_succ, Nat.zero_le, forall_const, List.cons.injEq, Value.int.injEq, Value.ref.injEq, Value.long.injEq, and_assoc, exists_and_left, exists_eq_left']
    try simp only [forall_eq]
    exact ⟨by decide, fun _ => ⟨i, hi, rfl, rfl, h⟩⟩
set_option maxRecDepth 100000 in
theorem t_J0_isLatin1 {l : Launch} {g : WG} : Ct l g yJ0_isLatin1_aae02 cJ0_isLatin1_aae02 1 (some .boolean) 1 (T_J0_isLatin1 g) := by
  refine Ct.of (by decide) (fun as M Q h => ?_) (fun p e s m args below meth c as M Q h C => ?_)
  · obtain ⟨i, rfl, hi, h⟩ := h; exact ⟨by simp, by simp [Value.category]⟩
  · obtain ⟨i, rfl, hi, h⟩ := h
    refine s_of (fun lv st M0 hs => ?_) (s_stc C dJ0_isLatin1_aae02_0 (s_if_eq C dJ0_isLatin1_aae02_3 (by decide) (s_F (pc := 17)) (s_aload_n C 0 dJ0_isLatin1_aae02_6 rfl (s_sfc C dJ0_isLatin1_aae02_7 (s_if_ne C dJ0_isLatin1_aae02_10 (by decide) (s_F (pc := 17)) (s_iconst C 1 dJ0_isLatin1_aae02_13 (by decide) (s_goto C dJ0_isLatin1_aae02_14 (by decide) (s_retz C dJ0_isLatin1_aae02_18))))))))
    obtain ⟨rfl, rfl, rfl⟩ := hs
    simp only [i_sfv, i_sfc, i_stc, i_stf, i_slen, i_sbld, f_i2c, i_retn, i_const, i_lconst, i_iload, i_aload, i_lload, i_istore, i_astore, i_lstore, i_iinc, i_bin, i_div, i_un, i_i2l, i_l2i, i_lbin, i_lcmp, i_if, i_icmp, i_dup, i_dup_x1, i_dup2, i_pop, i_geti, i_getr, i_getd, i_puti, i_putz, i_putd, i_iald, i_bald, i_aald, i_iast, i_bast, i_alen, i_keep, i_ret, i_retz, i_reta, i_retl, i_retv, i_callv, i_callk, i_calls, i_mm, i_copy, i_under, i_undld, i_ldcs, i_sw, q_swc0, q_swc1, q_lg0, q_lg1, q_lent0, q_lent1, lset, lset2, q_lins0, q_lins1, q_ldel0, q_ldel1, q_ldel20, q_ldel21, q_lkeep0, q_lkeep1, q_memb0, q_memb1, cat2, Nat.reduceBEq, decide_true, decide_false, decide_eq_true_eq, cond_true, cond_false, Bool.and_true, Bool.and_false, Bool.true_and, Bool.false_and, f_iadd, f_isub, f_imul, f_ishl, f_ishr, f_iushr, f_iand, f_ior, f_idiv, f_irem, f_ineg, f_i2b, f_i2s, f_ladd, f_lmul, c_eq, c_ne, c_lt, c_ge, c_gt, c_le, cc_eq, cc_ne, cc_lt, cc_ge, cc_gt, cc_le, rfo, aof, csum, Value.category, List.take, List.drop, List.reverse, List.reverseAux, List.map, List.sum_cons, List.sum_nil, List.cons_append, List.nil_append, Option.toList, List.mem_cons, List.not_mem_nil, List.length_cons, List.length_nil, reduceIte, Nat.reduceEqDiff, Nat.reduceAdd, Nat.reduceLeDiff, Nat.reduceLT, a_day, Nat.zero_ne_one, Nat.one_ne_zero, false_and, and_false, true_and, and_true, or_false, false_or, or_true, true_or, not_true_eq_false, not_false_eq_true, Nat.zero_add, Nat.add_zero, Nat.le_refl, Nat.lt_irrefl, Nat.zero_lt_succ, Nat.zero_le, forall_const, List.cons.injEq, Value.int.injEq, Value.ref.injEq, Value.long.injEq, and_assoc, exists_and_left, exists_eq_left']
    try simp only [forall_eq]
    exact ⟨by decide, fun _ => ⟨i, hi, rfl, fun q => q, h⟩⟩
set_option maxRecDepth 100000 in
theorem t_J0_length_8abf5 {l : Launch} {g : WG} : Ct l g yJ0_length_8abf5 cJ0_length_8abf5 1 (some .int) 3 (T_J0_length_8abf5 g) := by
  refine Ct.of (by decide) (fun as M Q h => ?_) (fun p e s m args below meth c as M Q h C => ?_)
  · obtain ⟨i, rfl, hi, h⟩ := h; exact ⟨by simp, by simp [Value.category]⟩
  · obtain ⟨i, rfl, hi, h⟩ := h
    refine s_of (fun lv st M0 hs => ?_) (s_aload_n C 0 dJ0_length_8abf5_0 rfl (s_sfv C dJ0_length_8abf5_1 (s_slen C dJ0_length_8abf5_4 (s_aload_n C 0 dJ0_length_8abf5_5 rfl (s_callk (n := 0) C rfl ⟨co_J0_coder_7d493, ini_J0, ⟨by decide, by decide, by decide +kernel⟩, by decide, by decide⟩ mk_J0_335 im_J0_coder_7d493 se_J0_coder_7d493 dJ0_length_8abf5_6 t_J0_coder (s_ishr C dJ0_length_8abf5_9 (s_ret C dJ0_length_8abf5_10)))))))
    obtain ⟨rfl, rfl, rfl⟩ := hs
    simp only [T_J0_coder, i_sfv, i_sfc, i_stc, i_stf, i_slen, i_sbld, f_i2c, i_retn, i_const, i_lconst, i_iload, i_aload, i_lload, i_istore, i_astore, i_lstore, i_iinc, i_bin, i_div, i_un, i_i2l, i_l2i, i_lbin, i_lcmp, i_if, i_icmp, i_dup, i_dup_x1, i_dup2, i_pop, i_geti, i_getr, i_getd, i_puti, i_putz, i_putd, i_iald, i_bald, i_aald, i_iast, i_bast, i_alen, i_keep, i_ret, i_retz, i_reta, i_retl, i_retv, i_callv, i_callk, i_calls, i_mm, i_copy, i_under, i_undld, i_ldcs, i_sw, q_swc0, q_swc1, q_lg0, q_lg1, q_lent0, q_lent1, lset, lset2, q_lins0, q_lins1, q_ldel0, q_ldel1, q_ldel20, q_ldel21, q_lkeep0, q_lkeep1, q_memb0, q_memb1, cat2, Nat.reduceBEq, decide_true, decide_false, decide_eq_true_eq, cond_true, cond_false, Bool.and_true, Bool.and_false, Bool.true_and, Bool.false_and, f_iadd, f_isub, f_imul, f_ishl, f_ishr, f_iushr, f_iand, f_ior, f_idiv, f_irem, f_ineg, f_i2b, f_i2s, f_ladd, f_lmul, c_eq, c_ne, c_lt, c_ge, c_gt, c_le, cc_eq, cc_ne, cc_lt, cc_ge, cc_gt, cc_le, rfo, aof, csum, Value.category, List.take, List.drop, List.reverse, List.reverseAux, List.map, List.sum_cons, List.sum_nil, List.cons_append, List.nil_append, Option.toList, List.mem_cons, List.not_mem_nil, List.length_cons, List.length_nil, reduceIte, Nat.reduceEqDiff, Nat.reduceAdd, Nat.reduceLeDiff, Nat.reduceLT, a_day, Nat.zero_ne_one, Nat.one_ne_zero, false_and, and_false, true_and, and_true, or_false, false_or, or_true, true_or, not_true_eq_false, not_false_eq_true, Nat.zero_add, Nat.add_zero, Nat.le_refl, Nat.lt_irrefl, Nat.zero_lt_succ, Nat.zero_le, forall_const, List.cons.injEq, Value.int.injEq, Value.ref.injEq, Value.long.injEq, and_assoc, exists_and_left, exists_eq_left']
    try simp only [forall_eq]
    refine ⟨i, hi, rfl, i, hi, rfl, ⟨i, hi, rfl⟩, i, rfl, hi, ?_⟩
    rw [shr0 (Nat.lt_of_le_of_lt (len_46 i hi) (by decide))]
    exact h
set_option maxRecDepth 100000 in
theorem t_J3_checkIndex {l : Launch} {g : WG} : Ct l g yJ3_checkIndex_8e157 cJ3_checkIndex_8e157 3 (some .int) 1 (T_J3_checkIndex g) := by
  refine Ct.of (by decide) (fun as M Q h => ?_) (fun p e s m args below meth c as M Q h C => ?_)
  · obtain ⟨a, b, r, rfl, hr, hab, hb, h⟩ := h; exact ⟨by simp, fun v hv => by simp only [List.mem_cons, List.not_mem_nil, or_false] at hv; rcases hv with rfl | rfl | rfl <;> first | rfl | exact hr⟩
  · obtain ⟨a, b, r, rfl, hr, hab, hb, h⟩ := h
    refine s_of (fun lv st M0 hs => ?_) (s_iload_n C 0 dJ3_checkIndex_8e157_0 rfl (s_if_lt C dJ3_checkIndex_8e157_1 (by decide) (s_F (pc := 9)) (s_iload_n C 0 dJ3_checkIndex_8e157_4 rfl (s_iload_n C 1 dJ3_checkIndex_8e157_5 rfl (s_icmp_lt C dJ3_checkIndex_8e157_6 (by decide) (s_iload_n C 0 dJ3_checkIndex_8e157_16 rfl (s_ret C dJ3_checkIndex_8e157_17)) (s_F (pc := 9)))))))
    obtain ⟨rfl, rfl, rfl⟩ := hs
    simp only [i_sfv, i_sfc, i_stc, i_stf, i_slen, i_sbld, f_i2c, i_retn, i_const, i_lconst, i_iload, i_aload, i_lload, i_istore, i_astore, i_lstore, i_iinc, i_bin, i_div, i_un, i_i2l, i_l2i, i_lbin, i_lcmp, i_if, i_icmp, i_dup, i_dup_x1, i_dup2, i_pop, i_geti, i_getr, i_getd, i_puti, i_putz, i_putd, i_iald, i_bald, i_aald, i_iast, i_bast, i_alen, i_keep, i_ret, i_retz, i_reta, i_retl, i_retv, i_callv, i_callk, i_calls, i_mm, i_copy, i_under, i_undld, i_ldcs, i_sw, q_swc0, q_swc1, q_lg0, q_lg1, q_lent0, q_lent1, lset, lset2, q_lins0, q_lins1, q_ldel0, q_ldel1, q_ldel20, q_ldel21, q_lkeep0, q_lkeep1, q_memb0, q_memb1, cat2, Nat.reduceBEq, decide_true, decide_false, decide_eq_true_eq, cond_true, cond_false, Bool.and_true, Bool.and_false, Bool.true_and, Bool.false_and, f_iadd, f_isub, f_imul, f_ishl, f_ishr, f_iushr, f_iand, f_ior, f_idiv, f_irem, f_ineg, f_i2b, f_i2s, f_ladd, f_lmul, c_eq, c_ne, c_lt, c_ge, c_gt, c_le, cc_eq, cc_ne, cc_lt, cc_ge, cc_gt, cc_le, rfo, aof, csum, Value.category, List.take, List.drop, List.reverse, List.reverseAux, List.map, List.sum_cons, List.sum_nil, List.cons_append, List.nil_append, Option.toList, List.mem_cons, List.not_mem_nil, List.length_cons, List.length_nil, reduceIte, Nat.reduceEqDiff, Nat.reduceAdd, Nat.reduceLeDiff, Nat.reduceLT, a_day, Nat.zero_ne_one, Nat.one_ne_zero, false_and, and_false, true_and, and_true, or_false, false_or, or_true, true_or, not_true_eq_false, not_false_eq_true, Nat.zero_add, Nat.add_zero, Nat.le_refl, Nat.lt_irrefl, Nat.zero_lt_succ, Nat.zero_le, forall_const, List.cons.injEq, Value.int.injEq, Value.ref.injEq, Value.long.injEq, and_assoc, exists_and_left, exists_eq_left']
    try simp only [forall_eq]
    exact ⟨fun z => nI_pos (by omega) z, fun _ => ⟨fun _ => h, fun z => z ((nI_ltI (by omega) hb).mpr hab)⟩⟩
set_option maxRecDepth 100000 in
theorem t_J0_checkIndex {l : Launch} {g : WG} : Ct l g yJ0_checkIndex_df160 cJ0_checkIndex_df160 2 (none) 2 (T_J0_checkIndex g) := by
  refine Ct.of (by decide) (fun as M Q h => ?_) (fun p e s m args below meth c as M Q h C => ?_)
  · obtain ⟨a, b, rfl, hab, hb, h⟩ := h; exact ⟨by simp, by simp [Value.category]⟩
  · obtain ⟨a, b, rfl, hab, hb, h⟩ := h
    refine s_of (fun lv st M0 hs => ?_) (s_iload_n C 0 dJ0_checkIndex_df160_0 rfl (s_iload_n C 1 dJ0_checkIndex_df160_1 rfl (s_stf C dJ0_checkIndex_df160_2 (s_calls (n := 3) C ⟨co_J3c, ini_J3, ⟨by decide, by decide, by decide +kernel⟩, by decide, by decide⟩ mk_J0_1059 st_J3c dJ0_checkIndex_df160_5 t_J3_checkIndex (s_pop C dJ0_checkIndex_df160_8 (s_retv C dJ0_checkIndex_df160_9))))))
    obtain ⟨rfl, rfl, rfl⟩ := hs
    simp only [T_J3_checkIndex, i_sfv, i_sfc, i_stc, i_stf, i_slen, i_sbld, f_i2c, i_retn, i_const, i_lconst, i_iload, i_aload, i_lload, i_istore, i_astore, i_lstore, i_iinc, i_bin, i_div, i_un, i_i2l, i_l2i, i_lbin, i_lcmp, i_if, i_icmp, i_dup, i_dup_x1, i_dup2, i_pop, i_geti, i_getr, i_getd, i_puti, i_putz, i_putd, i_iald, i_bald, i_aald, i_iast, i_bast, i_alen, i_keep, i_ret, i_retz, i_reta, i_retl, i_retv, i_callv, i_callk, i_calls, i_mm, i_copy, i_under, i_undld, i_ldcs, i_sw, q_swc0, q_swc1, q_lg0, q_lg1, q_lent0, q_lent1, lset, lset2, q_lins0, q_lins1, q_ldel0, q_ldel1, q_ldel20, q_ldel21, q_lkeep0, q_lkeep1, q_memb0, q_memb1, cat2, Nat.reduceBEq, decide_true, decide_false, decide_eq_true_eq, cond_true, cond_false, Bool.and_true, Bool.and_false, Bool.true_and, Bool.false_and, f_iadd, f_isub, f_imul, f_ishl, f_ishr, f_iushr, f_iand, f_ior, f_idiv, f_irem, f_ineg, f_i2b, f_i2s, f_ladd, f_lmul, c_eq, c_ne, c_lt, c_ge, c_gt, c_le, cc_eq, cc_ne, cc_lt, cc_ge, cc_gt, cc_le, rfo, aof, csum, Value.category, List.take, List.drop, List.reverse, List.reverseAux, List.map, List.sum_cons, List.sum_nil, List.cons_append, List.nil_append, Option.toList, List.mem_cons, List.not_mem_nil, List.length_cons, List.length_nil, reduceIte, Nat.reduceEqDiff, Nat.reduceAdd, Nat.reduceLeDiff, Nat.reduceLT, a_day, Nat.zero_ne_one, Nat.one_ne_zero, false_and, and_false, true_and, and_true, or_false, false_or, or_true, true_or, not_true_eq_false, not_false_eq_true, Nat.zero_add, Nat.add_zero, Nat.le_refl, Nat.lt_irrefl, Nat.zero_lt_succ, Nat.zero_le, forall_const, List.cons.injEq, Value.int.injEq, Value.ref.injEq, Value.long.injEq, and_assoc, exists_and_left, exists_eq_left']
    try simp only [forall_eq]
    exact ⟨⟨a, rfl, b, rfl, hab, hb, h⟩, ⟨a, rfl, b, rfl, hab, hb, h⟩⟩
set_option maxRecDepth 100000 in
theorem t_J1_charAt {l : Launch} {g : WG} : Ct l g yJ1_charAt_3b067 cJ1_charAt_3b067 2 (some .char) 3 (T_J1_charAt g) := by
  refine Ct.of (by decide) (fun as M Q h => ?_) (fun p e s m args below meth c as M Q h C => ?_)
  · obtain ⟨i, k, rfl, hi, hk, h⟩ := h; exact ⟨by simp, by simp [Value.category]⟩
  · obtain ⟨i, k, rfl, hi, hk, h⟩ := h
    refine s_of (fun lv st M0 hs => ?_) (s_iload_n C 1 dJ1_charAt_3b067_0 rfl (s_aload_n C 0 dJ1_charAt_3b067_1 rfl (s_slen C dJ1_charAt_3b067_2 (s_calls (n := 2) C ⟨co_J0_checkIndex_df160, ini_J0, ⟨by decide, by decide, by decide +kernel⟩, by decide, by decide⟩ mk_J1_9 st_J0_checkIndex_df160 dJ1_charAt_3b067_3 t_J0_checkIndex (s_aload_n C 0 dJ1_charAt_3b067_6 rfl (s_iload_n C 1 dJ1_charAt_3b067_7 rfl (s_sbld C dJ1_charAt_3b067_8 (s_sipush C 255 dJ1_charAt_3b067_9 (by decide) (s_iand C dJ1_charAt_3b067_12 (s_i2c C dJ1_charAt_3b067_13 (s_retn C dJ1_charAt_3b067_14)))))))))))
    obtain ⟨rfl, rfl, rfl⟩ := hs
    simp only [T_J0_checkIndex, i_sfv, i_sfc, i_stc, i_stf, i_slen, i_sbld, f_i2c, i_retn, i_const, i_lconst, i_iload, i_aload, i_lload, i_istore, i_astore, i_lstore, i_iinc, i_bin, i_div, i_un, i_i2l, i_l2i, i_lbin, i_lcmp, i_if, i_icmp, i_dup, i_dup_x1, i_dup2, i_pop, i_geti, i_getr, i_getd, i_puti, i_putz, i_putd, i_iald, i_bald, i_aald, i_iast, i_bast, i_alen, i_keep, i_ret, i_retz, i_reta, i_retl, i_retv, i_callv, i_callk, i_calls, i_mm, i_copy, i_under, i_undld, i_ldcs, i_sw, q_swc0, q_swc1, q_lg0, q_lg1, q_lent0, q_lent1, lset, lset2, q_lins0, q_lins1, q_ldel0, q_ldel1, q_ldel20, q_ldel21, q_lkeep0, q_lkeep1, q_memb0, q_memb1, cat2, Nat.reduceBEq, decide_true, decide_false, decide_eq_true_eq, cond_true, cond_false, Bool.and_true, Bool.and_false, Bool.true_and, Bool.false_and, f_iadd, f_isub, f_imul, f_ishl, f_ishr, f_iushr, f_iand, f_ior, f_idiv, f_irem, f_ineg, f_i2b, f_i2s, f_ladd, f_lmul, c_eq, c_ne, c_lt, c_ge, c_gt, c_le, cc_eq, cc_ne, cc_lt, cc_ge, cc_gt, cc_le, rfo, aof, csum, Value.category, List.take, List.drop, List.reverse, List.reverseAux, List.map, List.sum_cons, List.sum_nil, List.cons_append, List.nil_append, Option.toList, List.mem_cons, List.not_mem_nil, List.length_cons, List.length_nil, reduceIte, Nat.reduceEqDiff, Nat.reduceAdd, Nat.reduceLeDiff, Nat.reduceLT, a_day, Nat.zero_ne_one, Nat.one_ne_zero, false_and, and_false, true_and, and_true, or_false, false_or, or_true, true_or, not_true_eq_false, not_false_eq_true, Nat.zero_add, Nat.add_zero, Nat.le_refl, Nat.lt_irrefl, Nat.zero_lt_succ, Nat.zero_le, forall_const, List.cons.injEq, Value.int.injEq, Value.ref.injEq, Value.long.injEq, and_assoc, exists_and_left, exists_eq_left']
    try simp only [forall_eq]
    have h46 := len_46 i hi
    obtain ⟨c1, c2⟩ := ch_ok i hi k (by omega)
    rw [nI_clamp (by omega)]
    refine ⟨i, hi, rfl, k, rfl, _, rfl, hk, by omega, i, hi, rfl, vp_in_nI hk (by omega), ?_⟩
    rw [c1]
    exact ⟨c2, h⟩
set_option maxRecDepth 100000 in
theorem t_J0_charAt_5068e {l : Launch} {g : WG} : Ct l g yJ0_charAt_5068e cJ0_charAt_5068e 2 (some .char) 5 (T_J0_charAt_5068e g) := by
  refine Ct.of (by decide) (fun as M Q h => ?_) (fun p e s m args below meth c as M Q h C => ?_)
  · obtain ⟨i, k, rfl, hi, hk, h⟩ := h; exact ⟨by simp, by simp [Value.category]⟩
  · obtain ⟨i, k, rfl, hi, hk, h⟩ := h
    refine s_of (fun lv st M0 hs => ?_) (s_aload_n C 0 dJ0_charAt_5068e_0 rfl (s_callk (n := 0) C rfl ⟨co_J0_isLatin1_aae02, ini_J0, ⟨by decide, by decide, by decide +kernel⟩, by decide, by decide⟩ mk_J0_492 im_J0_isLatin1_aae02 se_J0_isLatin1_aae02 dJ0_charAt_5068e_1 t_J0_isLatin1 (s_if_eq C dJ0_charAt_5068e_4 (by decide) (s_F (pc := 16)) (s_aload_n C 0 dJ0_charAt_5068e_7 rfl (s_sfv C dJ0_charAt_5068e_8 (s_iload_n C 1 dJ0_charAt_5068e_11 rfl (s_calls (n := 2) C ⟨co_J1c, ini_J1, ⟨by decide, by decide, by decide +kernel⟩, by decide, by decide⟩ mk_J0_495 st_J1c dJ0_charAt_5068e_12 t_J1_charAt (s_retn C dJ0_charAt_5068e_15))))))))
    obtain ⟨rfl, rfl, rfl⟩ := hs
    simp only [T_J0_isLatin1, T_J1_charAt, i_sfv, i_sfc, i_stc, i_stf, i_slen, i_sbld, f_i2c, i_retn, i_const, i_lconst, i_iload, i_aload, i_lload, i_istore, i_astore, i_lstore, i_iinc, i_bin, i_div, i_un, i_i2l, i_l2i, i_lbin, i_lcmp, i_if, i_icmp, i_dup, i_dup_x1, i_dup2, i_pop, i_geti, i_getr, i_getd, i_puti, i_putz, i_putd, i_iald, i_bald, i_aald, i_iast, i_bast, i_alen, i_keep, i_ret, i_retz, i_reta, i_retl, i_retv, i_callv, i_callk, i_calls, i_mm, i_copy, i_under, i_undld, i_ldcs, i_sw, q_swc0, q_swc1, q_lg0, q_lg1, q_lent0, q_lent1, lset, lset2, q_lins0, q_lins1, q_ldel0, q_ldel1, q_ldel20, q_ldel21, q_lkeep0, q_lkeep1, q_memb0, q_memb1, cat2, Nat.reduceBEq, decide_true, decide_false, decide_eq_true_eq, cond_true, cond_false, Bool.and_true, Bool.and_false, Bool.true_and, Bool.false_and, f_iadd, f_isub, f_imul, f_ishl, f_ishr, f_iushr, f_iand, f_ior, f_idiv, f_irem, f_ineg, f_i2b, f_i2s, f_ladd, f_lmul, c_eq, c_ne, c_lt, c_ge, c_gt, c_le, cc_eq, cc_ne, cc_lt, cc_ge, cc_gt, cc_le, rfo, aof, csum, Value.category, List.take, List.drop, List.reverse, List.reverseAux, List.map, List.sum_cons, List.sum_nil, List.cons_append, List.nil_append, Option.toList, List.mem_cons, List.not_mem_nil, List.length_cons, List.length_nil, reduceIte, Nat.reduceEqDiff, Nat.reduceAdd, Nat.reduceLeDiff, Nat.reduceLT, a_day, Nat.zero_ne_one, Nat.one_ne_zero, false_and, and_false, true_and, and_true, or_false, false_or, or_true, true_or, not_true_eq_false, not_false_eq_true, Nat.zero_add, Nat.add_zero, Nat.le_refl, Nat.lt_irrefl, Nat.zero_lt_succ, Nat.zero_le, forall_const, List.cons.injEq, Value.int.injEq, Value.ref.injEq, Value.long.injEq, and_assoc, exists_and_left, exists_eq_left']
    try simp only [forall_eq]
    have h46 := len_46 i hi
    obtain ⟨c1, c2⟩ := ch_ok i hi k (by omega)
    exact ⟨⟨i, hi, rfl⟩, i, rfl, hi, fun q => absurd q (by decide), fun _ => ⟨i, hi, rfl, i, rfl, k, rfl, hi, hk, c2, h⟩⟩

