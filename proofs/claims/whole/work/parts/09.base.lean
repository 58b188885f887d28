/-! the words of lists, as rows that are no 'rfl' -/
theorem q_lg0 (i : Nat) : lg [] i = none := by rw [lg]
theorem q_lg1 (k : Nat) (w : Value) (t : List (Nat × Value)) (i : Nat) : lg ((k, w) :: t) i = bif k == i then some w else lg t i := by rw [lg]
theorem q_lins0 (i : Nat) (v : Value) : lins i v [] = [(i, v)] := by rw [lins]
theorem q_lins1 (k : Nat) (w : Value) (t : List (Nat × Value)) (i : Nat) (v : Value) : lins i v ((k, w) :: t) = bif decide (k < i) then (k, w) :: lins i v t else (i, v) :: (k, w) :: t := by rw [lins]
theorem q_ldel0 (i : Nat) : ldel i [] = [] := by rw [ldel]
theorem q_ldel1 (k : Nat) (w : Value) (t : List (Nat × Value)) (i : Nat) : ldel i ((k, w) :: t) = bif k == i then ldel i t else bif (k + 1 == i) && cat2 w then ldel i t else (k, w) :: ldel i t := by rw [ldel]
theorem q_ldel20 (i : Nat) : ldel2 i [] = [] := by rw [ldel2]
theorem q_ldel21 (k : Nat) (w : Value) (t : List (Nat × Value)) (i : Nat) : ldel2 i ((k, w) :: t) = bif k == i then ldel2 i t else bif k == i + 1 then ldel2 i t else bif (k + 1 == i) && cat2 w then ldel2 i t else (k, w) :: ldel2 i t := by rw [ldel2]
theorem q_memb0 (k : Nat) : memb k [] = false := by rw [memb]
theorem q_memb1 (k a : Nat) (t : List Nat) : memb k (a :: t) = bif a == k then true else memb k t := by rw [memb]
theorem q_lkeep0 (ks : List Nat) : lkeep ks [] = [] := by rw [lkeep]
theorem q_lkeep1 (k : Nat) (w : Value) (t : List (Nat × Value)) (ks : List Nat) : lkeep ks ((k, w) :: t) = bif memb k ks then (k, w) :: lkeep ks t else lkeep ks t := by rw [lkeep]
theorem q_lent0 (i : Nat) : lent i [] = [] := by rw [lent]
theorem q_lent1 (i : Nat) (v : Value) (t : List Value) : lent i (v :: t) = (i, v) :: lent (i + 1) t := by rw [lent]
theorem q_swc0 (x : Int32) (lv : List (Nat × Value)) (r : List Value) (M : MM) (K : PP) : swc x lv r M [] K = K lv r M := by rw [swc]
theorem q_swc1 (x : Int32) (lv : List (Nat × Value)) (r : List Value) (M : MM) (v : Int32) (P : PP) (t : List (Int32 × PP)) (K : PP) : swc x lv r M ((v, P) :: t) K = ((x = v → P lv r M) ∧ (¬ x = v → swc x lv r M t K)) := by rw [swc]
section LOOP
variable {p : Program} {l : Launch} {e : Env} {d : Nat} {s : State} {m : MethodId} {args : Array Value} {below : List Frame} {meth : Method} {c : Code} {nL : Nat} {g : WG} {Qf : State → Prop} {pc : Nat}
theorem s_loop (I : Nat → PP) {B : PP → PP} (hb : ∀ K, Sj p l e d s m args below meth c nL g Qf pc K → Sj p l e d s m args below meth c nL g Qf pc (B K))
    (hv : ∀ n lv st M (K : PP), (∀ n' lv st M, n' < n → I n' lv st M → K lv st M) → I n lv st M → B K lv st M) : ∀ n, Sj p l e d s m args below meth c nL g Qf pc (I n) := by
  intro n
  induction n using Nat.strongRecOn with
  | ind n ih =>
    refine s_of (P' := B (fun lv st M => ∃ n', n' < n ∧ I n' lv st M)) (fun lv st M h => hv n lv st M _ (fun n' lv st M hn hi => ⟨n', hn, hi⟩) h) (hb _ ?_)
    intro lv st M H locs ls h
    obtain ⟨n', hn, h⟩ := h
    exact ih n' hn lv st M H locs ls h
theorem s_F : Sj p l e d s m args below meth c nL g Qf pc (fun _ _ _ => False) := fun _ _ _ _ _ _ h => h.elim
theorem s_ex {I : Nat → PP} (h : ∀ n, Sj p l e d s m args below meth c nL g Qf pc (I n)) : Sj p l e d s m args below meth c nL g Qf pc (fun lv st M => ∃ n, I n lv st M) := by
  intro lv st M H locs ls hn
  obtain ⟨n, hn⟩ := hn
  exact h n lv st M H locs ls hn
end LOOP
/-! numbers -/
theorem a_day (q x : Nat) : q + 2 + (3 + x) = q + 5 + x := by omega
def b2i (b : Prop) [Decidable b] : Int32 := if b then 1 else 0
theorem b2i_t {b : Prop} [Decidable b] (h : b) : b2i b = 1 := if_pos h
theorem b2i_f {b : Prop} [Decidable b] (h : ¬ b) : b2i b = 0 := if_neg h
theorem b2i_1 {b : Prop} [Decidable b] : b2i b = 1 ↔ b := by unfold b2i; split <;> simp [*]
theorem b2i_0 {b : Prop} [Decidable b] : b2i b = 0 ↔ ¬ b := by unfold b2i; split <;> simp [*]
theorem b2i_z (b : Prop) [Decidable b] : b2i b = 0 ∨ b2i b = 1 := by unfold b2i; split <;> simp
/-- bounded from 0 to a number -/
def bnd (v hi : Int32) : Int32 := if v < 0 then 0 else if hi < v then hi else v
theorem max_app (x y : Int32) : f_max x y = if x < y then y else x := rfl
theorem min_app (x y : Int32) : f_min x y = if y < x then y else x := rfl
theorem bnd_of {v m : Int32} (hm : 0 ≤ m) : f_max 0 (f_min m v) = bnd v m := by
  have h1 : f_min m v = if v < m then v else m := rfl
  rw [max_app, h1]
  unfold bnd
  rw [Int32.le_iff_toInt_le] at hm
  repeat' split
  all_goals first | rfl | (simp only [Int32.lt_iff_toInt_lt, Int32.toInt_zero] at *; omega) | (apply Int32.toInt_inj.mp; simp only [Int32.lt_iff_toInt_lt, Int32.toInt_zero] at *; omega)
theorem i_lt {a b : Int32} : a < b ↔ a.toInt < b.toInt := Int32.lt_iff_toInt_lt
theorem i_le {a b : Int32} : a ≤ b ↔ a.toInt ≤ b.toInt := Int32.le_iff_toInt_le
theorem i_not_lt {a b : Int32} : ¬ a < b ↔ b ≤ a := by rw [i_lt, i_le]; omega
theorem i_not_le {a b : Int32} : ¬ a ≤ b ↔ b < a := by rw [i_lt, i_le]; omega
/-! worlds and memories -/
def Reg (g : WG) (a b : Nat) : Prop := ∀ q, a ≤ q → q < b → q ∈ gids g ∧ gfl g q = false
abbrev Full (g : WG) : Prop := Reg g 0 102
theorem okR {g : WG} {a b k q : Nat} (h : Reg g a b) (h1 : a ≤ q) (h2 : q < b) (hk : kd q = k) : okq g k q := ⟨(h q h1 h2).1, hk, (h q h1 h2).2⟩
def isD (q : Nat) : Prop := q = 40 ∨ q = 52 ∨ q = 64
theorem D40 : isD 40 := Or.inl rfl
theorem D52 : isD 52 := Or.inr (Or.inl rfl)
theorem D64 : isD 64 := Or.inr (Or.inr rfl)
theorem day_ok {g : WG} {q : Nat} (hg : Full g) (h : isD q) : okq g 0 q ∧ okq g 7 (q + 1) ∧ okq g 9 (q + 2) ∧ okq g 7 (q + 3) ∧ okq g 7 (q + 4) ∧ (ln (q + 1) = 16 ∧ ln (q + 2) = 7 ∧ ln (q + 3) = 16 ∧ ln (q + 4) = 6) ∧ q ∈ gids g ∧ kd q = 0 := by
  rcases h with rfl | rfl | rfl <;> exact ⟨okR hg (by decide) (by decide) rfl, okR hg (by decide) (by decide) rfl, okR hg (by decide) (by decide) rfl, okR hg (by decide) (by decide) rfl, okR hg (by decide) (by decide) rfl, ⟨rfl, rfl, rfl, rfl⟩, (hg _ (by decide) (by decide)).1, rfl⟩
theorem seam_ok {g : WG} {q s : Nat} (hg : Full g) (h : isD q) (hs : s < 7) : okq g 1 (q + 5 + s) := by
  refine okR hg (by omega) (by rcases h with rfl | rfl | rfl <;> omega) ?_
  have key : ∀ s, s < 7 → kd (40 + 5 + s) = 1 ∧ kd (52 + 5 + s) = 1 ∧ kd (64 + 5 + s) = 1 := by decide
  rcases h with rfl | rfl | rfl
  · exact (key s hs).1
  · exact (key s hs).2.1
  · exact (key s hs).2.2
theorem okq_in {g : WG} {k q : Nat} (h : okq g k q) : q ∈ gids g ∧ kd q = k := ⟨h.1, h.2.1⟩
/-- the same but at X -/
def Sm (X : Nat → Nat → Prop) (M M' : MM) : Prop := ∀ q j, ¬ X q j → M' q j = M q j
theorem Sm.rf {X : Nat → Nat → Prop} {M : MM} : Sm X M M := fun _ _ _ => rfl
theorem Sm.tr {X : Nat → Nat → Prop} {M M1 M2 : MM} (h : Sm X M M1) (h2 : Sm X M1 M2) : Sm X M M2 := fun q j hx => (h2 q j hx).trans (h q j hx)
theorem Sm.mono {X Y : Nat → Nat → Prop} {M M1 : MM} (h : Sm X M M1) (hs : ∀ q j, X q j → Y q j) : Sm Y M M1 := fun q j hx => h q j (fun z => hx (hs q j z))
theorem Sm.set {X : Nat → Nat → Prop} {M M1 : MM} (h : Sm X M M1) {q j : Nat} (x : Int32) (hx : X q j) : Sm X M (mset M1 q j x) := by
  intro a b hn
  unfold mset
  split
  · split
    · next e1 e2 => exact absurd (by rw [e1, e2]; exact hx) hn
    · exact h a b hn
  · exact h a b hn
theorem mset_app (M : MM) (q j : Nat) (x : Int32) (a b : Nat) : mset M q j x a b = if a = q then (if b = j then x else M a b) else M a b := rfl
theorem ms_s (M : MM) (q j : Nat) (x : Int32) : mset M q j x q j = x := by simp [mset]
theorem ms_q {M : MM} {q j a b : Nat} {x : Int32} (h : ¬ a = q) : mset M q j x a b = M a b := by simp [mset, h]
theorem ms_j {M : MM} {q j a b : Nat} {x : Int32} (h : ¬ b = j) : mset M q j x a b = M a b := by unfold mset; split <;> simp [h]
theorem tape_r {g : WG} (hg : Full g) : Reg g 3 32 := fun q h1 h2 => hg q (by omega) (by omega)
def T_X5_isKind (g : WG) (as : List Value) (M : MM) (Q : Option Value → MM → Prop) : Prop := ∃ k, as = [.int k] ∧ Q (some (.int (b2i (0 ≤ k ∧ k < 6)))) M
set_option maxRecDepth 100000 in
set_option maxHeartbeats 1000000 in
theorem t_X5_isKind {l : Launch} {g : WG} (hg : Full g) : Ct l g yX5_isKind cX5_isKind 1 ((Option.some FieldType.boolean)) 1 (T_X5_isKind g) := by
  refine Ct.of (by decide) (fun as M Q h => ?_) (fun p e s m args below meth c as M Q h C => ?_)
  · obtain ⟨k, rfl, h⟩ := h; exact ⟨by simp, by simp [Value.category]⟩
  · obtain ⟨k, rfl, h⟩ := h
    refine s_of (fun lv st M0 hs => ?_) (WX5_isKind_0 C)
    obtain ⟨rfl, rfl, rfl⟩ := hs
    unfold BX5_isKind_0
    simp only [i_const, i_lconst, i_iload, i_aload, i_lload, i_istore, i_astore, i_lstore, i_iinc, i_bin, i_div, i_un, i_i2l, i_l2i, i_lbin, i_lcmp, i_if, i_icmp, i_dup, i_dup_x1, i_dup2, i_pop, i_geti, i_getr, i_getd, i_puti, i_putz, i_putd, i_iald, i_bald, i_aald, i_iast, i_bast, i_alen, i_keep, i_ret, i_retz, i_reta, i_retl, i_retv, i_callv, i_callk, i_calls, i_mm, i_copy, i_under, i_undld, i_ldcs, i_sw, q_swc0, q_swc1, q_lg0, q_lg1, q_lent0, q_lent1, lset, lset2, q_lins0, q_lins1, q_ldel0, q_ldel1, q_ldel20, q_ldel21, q_lkeep0, q_lkeep1, q_memb0, q_memb1, cat2, Nat.reduceBEq, decide_true, decide_false, decide_eq_true_eq, cond_true, cond_false, Bool.and_true, Bool.and_false, Bool.true_and, Bool.false_and, f_iadd, f_isub, f_imul, f_ishl, f_ishr, f_iushr, f_iand, f_ior, f_idiv, f_irem, f_ineg, f_i2b, f_i2s, f_ladd, f_lmul, c_eq, c_ne, c_lt, c_ge, c_gt, c_le, cc_eq, cc_ne, cc_lt, cc_ge, cc_gt, cc_le, rfo, aof, csum, Value.category, List.take, List.drop, List.reverse, List.reverseAux, List.map, List.sum_cons, List.sum_nil, List.cons_append, List.nil_append, Option.toList, List.mem_cons, List.not_mem_nil, List.length_cons, List.length_nil, reduceIte, Nat.reduceEqDiff, Nat.reduceAdd, Nat.reduceLeDiff, Nat.reduceLT, a_day, Nat.zero_ne_one, Nat.one_ne_zero, false_and, and_false, true_and, and_true, or_false, false_or, or_true, true_or, not_true_eq_false, not_false_eq_true, Nat.zero_add, Nat.add_zero, Nat.le_refl, Nat.lt_irrefl, Nat.zero_lt_succ, Nat.zero_le, forall_const, List.cons.injEq, Value.int.injEq, Value.ref.injEq, Value.long.injEq, and_assoc, exists_and_left, exists_eq_left']
    try simp only [forall_eq]
    refine ⟨fun h1 => ?_, fun h1 => ⟨fun h2 => ?_, fun h2 => ?_⟩⟩
    · rwa [b2i_f (fun z => i_not_le.mpr h1 z.1)] at h
    · rwa [b2i_f (fun z => i_not_le.mpr z.2 h2)] at h
    · rwa [b2i_t ⟨i_not_lt.mp h1, i_not_le.mp h2⟩] at h
    
    
