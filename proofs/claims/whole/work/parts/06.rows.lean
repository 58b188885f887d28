section ROWS
variable {p : Program} {l : Launch} {e : Env} {d : Nat} {s : State} {m : MethodId} {args : Array Value} {below : List Frame} {meth : Method} {c : Code}
variable {cc : ByteArray} {nL : Nat} {own : String} {ret : Option FieldType} {g : WG} {Qf : State → Prop} {pc : Nat} {K KT KF : PP}
/-! predicates, an instruction each -/
def i_const (v : Int32) (K : PP) : PP := fun lv st M => K lv (.int v :: st) M
def i_lconst (v : Int64) (K : PP) : PP := fun lv st M => K lv (.long v :: st) M
def i_iload (i : Nat) (K : PP) : PP := fun lv st M => match lg lv i with | some (.int x) => K lv (.int x :: st) M | _ => False
def i_aload (i : Nat) (K : PP) : PP := fun lv st M => match lg lv i with | some (.ref x) => K lv (.ref x :: st) M | _ => False
def i_lload (i : Nat) (K : PP) : PP := fun lv st M => match lg lv i with | some (.long x) => K lv (.long x :: st) M | _ => False
def i_istore (i : Nat) (K : PP) : PP := fun lv st M => match st with | .int x :: r => K (lset lv i (.int x)) r M | _ => False
def i_astore (i : Nat) (K : PP) : PP := fun lv st M => match st with | .ref x :: r => K (lset lv i (.ref x)) r M | _ => False
def i_lstore (i : Nat) (K : PP) : PP := fun lv st M => match st with | .long x :: r => K (lset2 lv i (.long x)) r M | _ => False
def i_iinc (i : Nat) (n : Int32) (K : PP) : PP := fun lv st M => match lg lv i with | some (.int x) => K (lset lv i (.int (x + n))) st M | _ => False
def i_bin (f : Int32 → Int32 → Int32) (K : PP) : PP := fun lv st M => match st with | .int y :: .int x :: r => K lv (.int (f x y) :: r) M | _ => False
def i_div (f : Int32 → Int32 → Int32) (K : PP) : PP := fun lv st M => match st with | .int y :: .int x :: r => ¬ y = 0 ∧ K lv (.int (f x y) :: r) M | _ => False
def i_un (f : Int32 → Int32) (K : PP) : PP := fun lv st M => match st with | .int x :: r => K lv (.int (f x) :: r) M | _ => False
def i_i2l (K : PP) : PP := fun lv st M => match st with | .int x :: r => K lv (.long x.toInt64 :: r) M | _ => False
def i_l2i (K : PP) : PP := fun lv st M => match st with | .long x :: r => K lv (.int x.toInt32 :: r) M | _ => False
def i_lbin (f : Int64 → Int64 → Int64) (K : PP) : PP := fun lv st M => match st with | .long y :: .long x :: r => K lv (.long (f x y) :: r) M | _ => False
def i_lcmp (K : PP) : PP := fun lv st M => match st with | .long y :: .long x :: r => K lv (.int (lg_cmp x y) :: r) M | _ => False
def i_if (f : Int32 → Prop) (KT KF : PP) : PP := fun lv st M => match st with | .int x :: r => (f x → KT lv r M) ∧ (¬ f x → KF lv r M) | _ => False
def i_icmp (f : Int32 → Int32 → Prop) (KT KF : PP) : PP := fun lv st M => match st with | .int y :: .int x :: r => (f x y → KT lv r M) ∧ (¬ f x y → KF lv r M) | _ => False
def i_dup (K : PP) : PP := fun lv st M => match st with | a :: r => a.category = 1 ∧ K lv (a :: a :: r) M | _ => False
def i_dup_x1 (K : PP) : PP := fun lv st M => match st with | a :: b :: r => a.category = 1 ∧ b.category = 1 ∧ K lv (a :: b :: a :: r) M | _ => False
def i_dup2 (K : PP) : PP := fun lv st M => match st with | a :: b :: r => a.category = 1 ∧ b.category = 1 ∧ K lv (a :: b :: a :: b :: r) M | _ => False
def i_pop (K : PP) : PP := fun lv st M => match st with | a :: r => a.category = 1 ∧ K lv r M | _ => False
/-- a switch: what each value leads to, by a list of cases -/
def i_sw (cs : List (Int32 × PP)) (K : PP) : PP := fun lv st M => match st with | .int x :: r => (∀ q ∈ cs, x = q.1 → q.2 lv r M) ∧ ((∀ q ∈ cs, ¬ x = q.1) → K lv r M) | _ => False
def i_geti (k j : Nat) (K : PP) : PP := fun lv st M => match st with | .ref q :: r => okq g k q ∧ K lv (.int (M q j) :: r) M | _ => False
def i_getr (k j : Nat) (K : PP) : PP := fun lv st M => match st with | .ref q :: r => okq g k q ∧ K lv (.ref (q + rfo k j) :: r) M | _ => False
def i_getd (k j : Nat) (K : PP) : PP := fun lv st M => match st with | .ref q :: r => okq g k q ∧ K lv (rdv (M q j) :: r) M | _ => False
def i_puti (k j : Nat) (K : PP) : PP := fun lv st M => match st with | .int x :: .ref q :: r => okq g k q ∧ K lv r (mset M q j x) | _ => False
def i_putz (k j : Nat) (K : PP) : PP := fun lv st M => match st with | .int x :: .ref q :: r => okq g k q ∧ (x = 0 ∨ x = 1) ∧ K lv r (mset M q j x) | _ => False
def i_putd (k j : Nat) (K : PP) : PP := fun lv st M => match st with | .ref y :: .ref q :: r => okq g k q ∧ y < 1000 ∧ K lv r (mset M q j (nI y)) | _ => False
def i_iald (K : PP) : PP := fun lv st M => match st with | .int i :: .ref q :: r => okq g 7 q ∧ vp_in i (ln q) ∧ K lv (.int (M q i.toNatClampNeg) :: r) M | _ => False
def i_bald (K : PP) : PP := fun lv st M => match st with | .int i :: .ref q :: r => okq g 8 q ∧ vp_in i (ln q) ∧ K lv (.int (M q i.toNatClampNeg) :: r) M | _ => False
def i_aald (k : Nat) (K : PP) : PP := fun lv st M => match st with | .int i :: .ref q :: r => okq g k q ∧ vp_in i (ln q) ∧ K lv (.ref (q + aof k i.toNatClampNeg) :: r) M | _ => False
def i_iast (K : PP) : PP := fun lv st M => match st with | .int x :: .int i :: .ref q :: r => okq g 7 q ∧ vp_in i (ln q) ∧ K lv r (mset M q i.toNatClampNeg x) | _ => False
def i_bast (K : PP) : PP := fun lv st M => match st with | .int x :: .int i :: .ref q :: r => okq g 8 q ∧ (x = 0 ∨ x = 1) ∧ vp_in i (ln q) ∧ K lv r (mset M q i.toNatClampNeg x) | _ => False
def i_alen (K : PP) : PP := fun lv st M => match st with | .ref q :: r => okq g 7 q ∧ K lv (.int (nI (ln q)) :: r) M | _ => False
def i_keep (ks : List Nat) (K : PP) : PP := fun lv st M => K (lkeep ks lv) st M
def i_ret (Q : Option Value → MM → Prop) : PP := fun lv st M => match st with | [.int v] => Q (some (.int v)) M | _ => False
def i_retz (Q : Option Value → MM → Prop) : PP := fun lv st M => match st with | [.int v] => (v = 0 ∨ v = 1) ∧ Q (some (.int v)) M | _ => False
def i_reta (Q : Option Value → MM → Prop) : PP := fun lv st M => match st with | [.ref v] => Q (some (.ref v)) M | _ => False
def i_retl (Q : Option Value → MM → Prop) : PP := fun lv st M => match st with | [.long v] => Q (some (.long v)) M | _ => False
def i_retv (Q : Option Value → MM → Prop) : PP := fun lv st M => match st with | [] => Q none M | _ => False
/-! rows -/
theorem s_of {P P' : PP} (h : ∀ lv st M, P lv st M → P' lv st M) (k : Sj p l e d s m args below meth c nL g Qf pc P') : Sj p l e d s m args below meth c nL g Qf pc P := fun lv st M H locs ls hp => k lv st M H locs ls (h lv st M hp)
theorem s_keep (ks : List Nat) (k : Sj p l e d s m args below meth c nL g Qf pc K) : Sj p l e d s m args below meth c nL g Qf pc (i_keep ks K) := by
  intro lv st M H locs ls h hl hP hD hS
  refine k _ _ _ _ _ _ h (lv_mono hl fun q hq => ?_) hP hD hS
  obtain ⟨r, hr, rfl⟩ := List.mem_map.mp hq
  exact List.mem_map.mpr ⟨r, mem_lkeep hr, rfl⟩
theorem s_iconst (C : Cx p s m args meth c cc nL own ret g) {n : Int} (v : Int32) (hd : decode cc pc = .ok (.iconst n, 1)) (hv : Int32.ofInt n = v) (k : Sj p l e d s m args below meth c nL g Qf (pc + 1) K) : Sj p l e d s m args below meth c nL g Qf pc (i_const v K) :=
  fun lv st M H locs ls h hl hP hD hS => lv_iconst C.1 C.2.1 hd hv (k _ _ _ _ _ _ h hl hP hD hS)
theorem s_bipush (C : Cx p s m args meth c cc nL own ret g) {n : Int} (v : Int32) (hd : decode cc pc = .ok (.bipush n, 2)) (hv : (Int8.ofInt n).toInt32 = v) (k : Sj p l e d s m args below meth c nL g Qf (pc + 2) K) : Sj p l e d s m args below meth c nL g Qf pc (i_const v K) :=
  fun lv st M H locs ls h hl hP hD hS => lv_bipush C.1 C.2.1 hd hv (k _ _ _ _ _ _ h hl hP hD hS)
theorem s_sipush (C : Cx p s m args meth c cc nL own ret g) {n : Int} (v : Int32) (hd : decode cc pc = .ok (.sipush n, 3)) (hv : (Int16.ofInt n).toInt32 = v) (k : Sj p l e d s m args below meth c nL g Qf (pc + 3) K) : Sj p l e d s m args below meth c nL g Qf pc (i_const v K) :=
  fun lv st M H locs ls h hl hP hD hS => lv_sipush C.1 C.2.1 hd hv (k _ _ _ _ _ _ h hl hP hD hS)
theorem s_ldc (C : Cx p s m args meth c cc nL own ret g) {ix : Nat} (v : Int32) (hw : Cond.constant own ix v ∈ TT) (hd : decode cc pc = .ok (.ldc ix, 2)) (k : Sj p l e d s m args below meth c nL g Qf (pc + 2) K) : Sj p l e d s m args below meth c nL g Qf pc (i_const v K) :=
  fun lv st M H locs ls h hl hP hD hS => lv_ldc C.1 C.2.1 C.2.2.2.1 (C.2.2.2.2.1 _ hw) hd (k _ _ _ _ _ _ h hl hP hD hS)
theorem s_ldcw (C : Cx p s m args meth c cc nL own ret g) {ix : Nat} (v : Int32) (hw : Cond.constant own ix v ∈ TT) (hd : decode cc pc = .ok (.ldc_w ix, 3)) (k : Sj p l e d s m args below meth c nL g Qf (pc + 3) K) : Sj p l e d s m args below meth c nL g Qf pc (i_const v K) :=
  fun lv st M H locs ls h hl hP hD hS => lv_ldcw C.1 C.2.1 C.2.2.2.1 (C.2.2.2.2.1 _ hw) hd (k _ _ _ _ _ _ h hl hP hD hS)
theorem s_ldc2 (C : Cx p s m args meth c cc nL own ret g) {ix : Nat} (v : Int64) (hw : Cond.constantLong own ix v ∈ TT) (hd : decode cc pc = .ok (.ldc2_w ix, 3)) (k : Sj p l e d s m args below meth c nL g Qf (pc + 3) K) : Sj p l e d s m args below meth c nL g Qf pc (i_lconst v K) :=
  fun lv st M H locs ls h hl hP hD hS => lv_ldc2 C.1 C.2.1 C.2.2.2.1 (C.2.2.2.2.1 _ hw) hd (k _ _ _ _ _ _ h hl hP hD hS)
theorem s_lconst (C : Cx p s m args meth c cc nL own ret g) {n : Fin 2} (v : Int64) (hd : decode cc pc = .ok (.lconst n, 1)) (hv : Int64.ofNat (n : Nat) = v) (k : Sj p l e d s m args below meth c nL g Qf (pc + 1) K) : Sj p l e d s m args below meth c nL g Qf pc (i_lconst v K) :=
  fun lv st M H locs ls h hl hP hD hS => lv_lconst C.1 C.2.1 hd hv (k _ _ _ _ _ _ h hl hP hD hS)
theorem s_iload (C : Cx p s m args meth c cc nL own ret g) {i : Nat} (hd : decode cc pc = .ok (.iload i, 2)) (k : Sj p l e d s m args below meth c nL g Qf (pc + 2) K) : Sj p l e d s m args below meth c nL g Qf pc (i_iload i K) := by
  intro lv st M H locs ls h hl hP hD hS
  unfold i_iload at h
  split at h
  · next x hx => exact lv_iload C.1 C.2.1 hd (lg_at hl hx) (k _ _ _ _ _ _ h hl hP hD hS)
  · exact h.elim
theorem s_iload_n (C : Cx p s m args meth c cc nL own ret g) {f : Fin 4} (i : Nat) (hd : decode cc pc = .ok (.iload_n f, 1)) (hi : (f : Nat) = i) (k : Sj p l e d s m args below meth c nL g Qf (pc + 1) K) : Sj p l e d s m args below meth c nL g Qf pc (i_iload i K) := by
  intro lv st M H locs ls h hl hP hD hS
  unfold i_iload at h
  split at h
  · next x hx => exact lv_iload_n C.1 C.2.1 hd hi (lg_at hl hx) (k _ _ _ _ _ _ h hl hP hD hS)
  · exact h.elim
theorem s_aload (C : Cx p s m args meth c cc nL own ret g) {i : Nat} (hd : decode cc pc = .ok (.aload i, 2)) (k : Sj p l e d s m args below meth c nL g Qf (pc + 2) K) : Sj p l e d s m args below meth c nL g Qf pc (i_aload i K) := by
  intro lv st M H locs ls h hl hP hD hS
  unfold i_aload at h
  split at h
  · next x hx => exact lv_aload C.1 C.2.1 hd (lg_at hl hx) (k _ _ _ _ _ _ h hl hP hD hS)
  · exact h.elim
theorem s_aload_n (C : Cx p s m args meth c cc nL own ret g) {f : Fin 4} (i : Nat) (hd : decode cc pc = .ok (.aload_n f, 1)) (hi : (f : Nat) = i) (k : Sj p l e d s m args below meth c nL g Qf (pc + 1) K) : Sj p l e d s m args below meth c nL g Qf pc (i_aload i K) := by
  intro lv st M H locs ls h hl hP hD hS
  unfold i_aload at h
  split at h
  · next x hx => exact lv_aload_n C.1 C.2.1 hd hi (lg_at hl hx) (k _ _ _ _ _ _ h hl hP hD hS)
  · exact h.elim
theorem s_lload (C : Cx p s m args meth c cc nL own ret g) {i : Nat} (hd : decode cc pc = .ok (.lload i, 2)) (k : Sj p l e d s m args below meth c nL g Qf (pc + 2) K) : Sj p l e d s m args below meth c nL g Qf pc (i_lload i K) := by
  intro lv st M H locs ls h hl hP hD hS
  unfold i_lload at h
  split at h
  · next x hx => exact lv_lload C.1 C.2.1 hd (lg_at hl hx) (k _ _ _ _ _ _ h hl hP hD hS)
  · exact h.elim
theorem s_istore (C : Cx p s m args meth c cc nL own ret g) {i : Nat} (hd : decode cc pc = .ok (.istore i, 2)) (hn : i < nL) (k : Sj p l e d s m args below meth c nL g Qf (pc + 2) K) : Sj p l e d s m args below meth c nL g Qf pc (i_istore i K) := by
  intro lv st M H locs ls h hl hP hD hS
  unfold i_istore at h
  split at h
  · exact lv_istore C.1 C.2.1 hd hl hn rfl (fun ls' hl' => k _ _ _ _ _ _ h (lset_of hl') hP hD hS)
  · exact h.elim
theorem s_istore_n (C : Cx p s m args meth c cc nL own ret g) {f : Fin 4} (i : Nat) (hd : decode cc pc = .ok (.istore_n f, 1)) (hi : (f : Nat) = i) (hn : i < nL) (k : Sj p l e d s m args below meth c nL g Qf (pc + 1) K) : Sj p l e d s m args below meth c nL g Qf pc (i_istore i K) := by
  intro lv st M H locs ls h hl hP hD hS
  unfold i_istore at h
  split at h
  · exact lv_istore_n C.1 C.2.1 hd hi hl hn rfl (fun ls' hl' => k _ _ _ _ _ _ h (lset_of hl') hP hD hS)
  · exact h.elim
theorem s_astore (C : Cx p s m args meth c cc nL own ret g) {i : Nat} (hd : decode cc pc = .ok (.astore i, 2)) (hn : i < nL) (k : Sj p l e d s m args below meth c nL g Qf (pc + 2) K) : Sj p l e d s m args below meth c nL g Qf pc (i_astore i K) := by
  intro lv st M H locs ls h hl hP hD hS
  unfold i_astore at h
  split at h
  · exact lv_astore C.1 C.2.1 hd hl hn rfl (fun ls' hl' => k _ _ _ _ _ _ h (lset_of (v := .ref _) hl') hP hD hS)
  · exact h.elim
theorem s_astore_n (C : Cx p s m args meth c cc nL own ret g) {f : Fin 4} (i : Nat) (hd : decode cc pc = .ok (.astore_n f, 1)) (hi : (f : Nat) = i) (hn : i < nL) (k : Sj p l e d s m args below meth c nL g Qf (pc + 1) K) : Sj p l e d s m args below meth c nL g Qf pc (i_astore i K) := by
  intro lv st M H locs ls h hl hP hD hS
  unfold i_astore at h
  split at h
  · exact lv_astore_n C.1 C.2.1 hd hi hl hn rfl (fun ls' hl' => k _ _ _ _ _ _ h (lset_of (v := .ref _) hl') hP hD hS)
  · exact h.elim
theorem s_lstore (C : Cx p s m args meth c cc nL own ret g) {i : Nat} (hd : decode cc pc = .ok (.lstore i, 2)) (hn : i + 1 < nL) (k : Sj p l e d s m args below meth c nL g Qf (pc + 2) K) : Sj p l e d s m args below meth c nL g Qf pc (i_lstore i K) := by
  intro lv st M H locs ls h hl hP hD hS
  unfold i_lstore at h
  split at h
  · exact lv_lstore C.1 C.2.1 hd hl hn rfl (fun ls' hl' => k _ _ _ _ _ _ h (lset2_of hl') hP hD hS)
  · exact h.elim
theorem s_iinc (C : Cx p s m args meth c cc nL own ret g) {i : Nat} {n : Int} (v : Int32) (hd : decode cc pc = .ok (.iinc i n, 3)) (hv : Int32.ofInt n = v) (hn : i < nL) (k : Sj p l e d s m args below meth c nL g Qf (pc + 3) K) : Sj p l e d s m args below meth c nL g Qf pc (i_iinc i v K) := by
  intro lv st M H locs ls h hl hP hD hS
  unfold i_iinc at h
  split at h
  · next x hx =>
    have h1 : (i, Value.int x) ∈ evL g lv := by
      have h2 := lg_at hl hx
      exact List.mem_map.mpr ⟨(i, .int x), by
        clear h2 h hP hD hS hl
        induction lv with
        | nil => cases hx
        | cons q t ih =>
          obtain ⟨k, w⟩ := q
          simp only [lg] at hx
          split at hx
          · next e => cases hx; subst e; exact List.mem_cons_self
          · exact List.mem_cons_of_mem _ (ih hx), rfl⟩
    obtain ⟨j, hj⟩ := List.getElem?_of_mem h1
    exact lv_iinc C.1 C.2.1 hd hl hj (by rw [hv]) hn rfl (fun ls' hl' => k _ _ _ _ _ _ h (lset_of hl') hP hD hS)
  · exact h.elim
