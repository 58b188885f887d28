/-! predicates, an instruction each -/
def i_const (v : Int32) (K : PP) (lv : List (Nat × Value)) (st : List Value) (M : MM) : Prop := K lv (.int v :: st) M
def i_lconst (v : Int64) (K : PP) (lv : List (Nat × Value)) (st : List Value) (M : MM) : Prop := K lv (.long v :: st) M
def i_iload (i : Nat) (K : PP) (lv : List (Nat × Value)) (st : List Value) (M : MM) : Prop := match lg lv i with | some (.int x) => K lv (.int x :: st) M | _ => False
def i_aload (i : Nat) (K : PP) (lv : List (Nat × Value)) (st : List Value) (M : MM) : Prop := match lg lv i with | some (.ref x) => K lv (.ref x :: st) M | _ => False
def i_lload (i : Nat) (K : PP) (lv : List (Nat × Value)) (st : List Value) (M : MM) : Prop := match lg lv i with | some (.long x) => K lv (.long x :: st) M | _ => False
def i_istore (i : Nat) (K : PP) (lv : List (Nat × Value)) (st : List Value) (M : MM) : Prop := match st with | .int x :: r => K (lset lv i (.int x)) r M | _ => False
def i_astore (i : Nat) (K : PP) (lv : List (Nat × Value)) (st : List Value) (M : MM) : Prop := match st with | .ref x :: r => K (lset lv i (.ref x)) r M | _ => False
def i_lstore (i : Nat) (K : PP) (lv : List (Nat × Value)) (st : List Value) (M : MM) : Prop := match st with | .long x :: r => K (lset2 lv i (.long x)) r M | _ => False
def i_iinc (i : Nat) (n : Int32) (K : PP) (lv : List (Nat × Value)) (st : List Value) (M : MM) : Prop := match lg lv i with | some (.int x) => ∀ z, z = x + n → K (lset lv i (.int z)) st M | _ => False
def i_bin (f : Int32 → Int32 → Int32) (K : PP) (lv : List (Nat × Value)) (st : List Value) (M : MM) : Prop := match st with | .int y :: .int x :: r => ∀ z, z = f x y → K lv (.int z :: r) M | _ => False
def i_div (f : Int32 → Int32 → Int32) (K : PP) (lv : List (Nat × Value)) (st : List Value) (M : MM) : Prop := match st with | .int y :: .int x :: r => ¬ y = 0 ∧ ∀ z, z = f x y → K lv (.int z :: r) M | _ => False
def i_un (f : Int32 → Int32) (K : PP) (lv : List (Nat × Value)) (st : List Value) (M : MM) : Prop := match st with | .int x :: r => ∀ z, z = f x → K lv (.int z :: r) M | _ => False
def i_i2l (K : PP) (lv : List (Nat × Value)) (st : List Value) (M : MM) : Prop := match st with | .int x :: r => ∀ z, z = x.toInt64 → K lv (.long z :: r) M | _ => False
def i_l2i (K : PP) (lv : List (Nat × Value)) (st : List Value) (M : MM) : Prop := match st with | .long x :: r => ∀ z, z = x.toInt32 → K lv (.int z :: r) M | _ => False
def i_lbin (f : Int64 → Int64 → Int64) (K : PP) (lv : List (Nat × Value)) (st : List Value) (M : MM) : Prop := match st with | .long y :: .long x :: r => ∀ z, z = f x y → K lv (.long z :: r) M | _ => False
def i_lcmp (K : PP) (lv : List (Nat × Value)) (st : List Value) (M : MM) : Prop := match st with | .long y :: .long x :: r => ∀ z, z = lg_cmp x y → K lv (.int z :: r) M | _ => False
def i_if (f : Int32 → Prop) (KT KF : PP) (lv : List (Nat × Value)) (st : List Value) (M : MM) : Prop := match st with | .int x :: r => (f x → KT lv r M) ∧ (¬ f x → KF lv r M) | _ => False
def i_icmp (f : Int32 → Int32 → Prop) (KT KF : PP) (lv : List (Nat × Value)) (st : List Value) (M : MM) : Prop := match st with | .int y :: .int x :: r => (f x y → KT lv r M) ∧ (¬ f x y → KF lv r M) | _ => False
def i_dup (K : PP) (lv : List (Nat × Value)) (st : List Value) (M : MM) : Prop := match st with | a :: r => a.category = 1 ∧ K lv (a :: a :: r) M | _ => False
def i_dup_x1 (K : PP) (lv : List (Nat × Value)) (st : List Value) (M : MM) : Prop := match st with | a :: b :: r => a.category = 1 ∧ b.category = 1 ∧ K lv (a :: b :: a :: r) M | _ => False
def i_dup2 (K : PP) (lv : List (Nat × Value)) (st : List Value) (M : MM) : Prop := match st with | a :: b :: r => a.category = 1 ∧ b.category = 1 ∧ K lv (a :: b :: a :: b :: r) M | _ => False
def i_pop (K : PP) (lv : List (Nat × Value)) (st : List Value) (M : MM) : Prop := match st with | a :: r => a.category = 1 ∧ K lv r M | _ => False
/-- a switch: what each value leads to, by a list of cases -/
def swc (x : Int32) (lv : List (Nat × Value)) (r : List Value) (M : MM) : List (Int32 × PP) → PP → Prop
  | [], K => K lv r M
  | (v, P) :: t, K => (x = v → P lv r M) ∧ (¬ x = v → swc x lv r M t K)
def i_sw (cs : List (Int32 × PP)) (K : PP) (lv : List (Nat × Value)) (st : List Value) (M : MM) : Prop := match st with | .int x :: r => swc x lv r M cs K | _ => False
theorem swc_of {x : Int32} {lv : List (Nat × Value)} {r : List Value} {M : MM} {K : PP} : ∀ {cs : List (Int32 × PP)}, swc x lv r M cs K → (∃ q, q ∈ cs ∧ q.1 = x ∧ q.2 lv r M) ∨ (¬ x ∈ cs.map Prod.fst ∧ K lv r M)
  | [], h => Or.inr ⟨by simp, h⟩
  | (v, P) :: t, h => by
    by_cases e : x = v
    · exact Or.inl ⟨(v, P), List.mem_cons_self, e.symm, h.1 e⟩
    · rcases swc_of (h.2 e) with ⟨q, a, b, c⟩ | ⟨a, b⟩
      · exact Or.inl ⟨q, List.mem_cons_of_mem _ a, b, c⟩
      · exact Or.inr ⟨by simp only [List.map_cons, List.mem_cons, not_or]; exact ⟨e, a⟩, b⟩
def i_geti (g : WG) (k j : Nat) (K : PP) (lv : List (Nat × Value)) (st : List Value) (M : MM) : Prop := match st with | .ref q :: r => okq g k q ∧ ∀ z, z = M q j → K lv (.int z :: r) M | _ => False
def i_getr (g : WG) (k j : Nat) (K : PP) (lv : List (Nat × Value)) (st : List Value) (M : MM) : Prop := match st with | .ref q :: r => okq g k q ∧ K lv (.ref (q + rfo k j) :: r) M | _ => False
def i_getd (g : WG) (k j : Nat) (K : PP) (lv : List (Nat × Value)) (st : List Value) (M : MM) : Prop := match st with | .ref q :: r => okq g k q ∧ K lv (rdv (M q j) :: r) M | _ => False
def i_puti (g : WG) (k j : Nat) (K : PP) (lv : List (Nat × Value)) (st : List Value) (M : MM) : Prop := match st with | .int x :: .ref q :: r => okq g k q ∧ K lv r (mset M q j x) | _ => False
def i_putz (g : WG) (k j : Nat) (K : PP) (lv : List (Nat × Value)) (st : List Value) (M : MM) : Prop := match st with | .int x :: .ref q :: r => okq g k q ∧ (x = 0 ∨ x = 1) ∧ K lv r (mset M q j x) | _ => False
def i_putd (g : WG) (k j : Nat) (K : PP) (lv : List (Nat × Value)) (st : List Value) (M : MM) : Prop := match st with | .ref y :: .ref q :: r => okq g k q ∧ y < 1000 ∧ K lv r (mset M q j (nI y)) | _ => False
def i_iald (g : WG) (K : PP) (lv : List (Nat × Value)) (st : List Value) (M : MM) : Prop := match st with | .int i :: .ref q :: r => okq g 7 q ∧ vp_in i (ln q) ∧ ∀ z, z = M q i.toNatClampNeg → K lv (.int z :: r) M | _ => False
def i_bald (g : WG) (K : PP) (lv : List (Nat × Value)) (st : List Value) (M : MM) : Prop := match st with | .int i :: .ref q :: r => okq g 8 q ∧ vp_in i (ln q) ∧ ∀ z, z = M q i.toNatClampNeg → K lv (.int z :: r) M | _ => False
def i_aald (g : WG) (k : Nat) (K : PP) (lv : List (Nat × Value)) (st : List Value) (M : MM) : Prop := match st with | .int i :: .ref q :: r => okq g k q ∧ vp_in i (ln q) ∧ K lv (.ref (q + aof k i.toNatClampNeg) :: r) M | _ => False
def i_iast (g : WG) (K : PP) (lv : List (Nat × Value)) (st : List Value) (M : MM) : Prop := match st with | .int x :: .int i :: .ref q :: r => okq g 7 q ∧ vp_in i (ln q) ∧ K lv r (mset M q i.toNatClampNeg x) | _ => False
def i_bast (g : WG) (K : PP) (lv : List (Nat × Value)) (st : List Value) (M : MM) : Prop := match st with | .int x :: .int i :: .ref q :: r => okq g 8 q ∧ (x = 0 ∨ x = 1) ∧ vp_in i (ln q) ∧ K lv r (mset M q i.toNatClampNeg x) | _ => False
def i_alen (g : WG) (K : PP) (lv : List (Nat × Value)) (st : List Value) (M : MM) : Prop := match st with | .ref q :: r => okq g 7 q ∧ K lv (.int (nI (ln q)) :: r) M | _ => False
def i_keep (ks : List Nat) (K : PP) (lv : List (Nat × Value)) (st : List Value) (M : MM) : Prop := K (lkeep ks lv) st M
def i_ret (Q : Option Value → MM → Prop) (lv : List (Nat × Value)) (st : List Value) (M : MM) : Prop := match st with | [.int v] => Q (some (.int v)) M | _ => False
def i_retz (Q : Option Value → MM → Prop) (lv : List (Nat × Value)) (st : List Value) (M : MM) : Prop := match st with | [.int v] => (v = 0 ∨ v = 1) ∧ Q (some (.int v)) M | _ => False
def i_reta (Q : Option Value → MM → Prop) (lv : List (Nat × Value)) (st : List Value) (M : MM) : Prop := match st with | [.ref v] => Q (some (.ref v)) M | _ => False
def i_retl (Q : Option Value → MM → Prop) (lv : List (Nat × Value)) (st : List Value) (M : MM) : Prop := match st with | [.long v] => Q (some (.long v)) M | _ => False
def i_retv (Q : Option Value → MM → Prop) (lv : List (Nat × Value)) (st : List Value) (M : MM) : Prop := match st with | [] => Q none M | _ => False
/-- what a call asks and gives -/
abbrev PT : Type := List Value → MM → (Option Value → MM → Prop) → Prop
abbrev csum (r : List Value) : Nat := (r.map fun v => v.category).sum
def i_callv (g : WG) (k n : Nat) (T : PT) (K : PP) (lv : List (Nat × Value)) (st : List Value) (M : MM) : Prop := match st.drop n with | .ref q :: r => q ∈ gids g ∧ kd q = k ∧ csum r ≤ 8 ∧ T (.ref q :: (st.take n).reverse) M (fun v M' => K lv (v.toList ++ r) M') | _ => False
def i_callk (n : Nat) (T : PT) (K : PP) (lv : List (Nat × Value)) (st : List Value) (M : MM) : Prop := match st.drop n with | .ref q :: r => (∃ i, i < 13 ∧ q = 200 + i) ∧ csum r ≤ 8 ∧ T (.ref q :: (st.take n).reverse) M (fun v M' => K lv (v.toList ++ r) M') | _ => False
def i_calls (n : Nat) (T : PT) (K : PP) (lv : List (Nat × Value)) (st : List Value) (M : MM) : Prop := n ≤ st.length ∧ csum (st.drop n) ≤ 8 ∧ T (st.take n).reverse M (fun v M' => K lv (v.toList ++ st.drop n) M')
def i_mm (f : Int32 → Int32 → Int32) (K : PP) (lv : List (Nat × Value)) (st : List Value) (M : MM) : Prop := match st with | .int y :: .int x :: r => csum r ≤ 8 ∧ ∀ z, z = f x y → K lv (.int z :: r) M | _ => False
def mcpy (M : MM) (a0 a sp dp n : Nat) : MM := fun x => if x = a then va_cpy (M a0) (M a) sp dp n else M x
def i_copy (g : WG) (K : PP) (lv : List (Nat × Value)) (st : List Value) (M : MM) : Prop := match st with | .int n :: .int dp :: .ref a :: .int sp :: .ref a0 :: r => okq g 7 a0 ∧ okq g 7 a ∧ ¬ sp < 0 ∧ ¬ dp < 0 ∧ ¬ n < 0 ∧ sp.toNatClampNeg + n.toNatClampNeg ≤ ln a0 ∧ dp.toNatClampNeg + n.toNatClampNeg ≤ ln a ∧ csum r ≤ 8 ∧ K lv r (mcpy M a0 a sp.toNatClampNeg dp.toNatClampNeg n.toNatClampNeg) | _ => False
/-- UNDER, and a place of it -/
def i_under (K : PP) (lv : List (Nat × Value)) (st : List Value) (M : MM) : Prop := K lv (.ref 1000 :: st) M
def i_undld (K : PP) (lv : List (Nat × Value)) (st : List Value) (M : MM) : Prop := match st with | .int i :: .ref q :: r => q = 1000 ∧ vp_in i 6 ∧ ∀ z, z = undV i.toNatClampNeg → K lv (.int z :: r) M | _ => False
def i_ldcs (i : Nat) (K : PP) (lv : List (Nat × Value)) (st : List Value) (M : MM) : Prop := K lv (.ref (200 + i) :: st) M
/-! contracts -/
def cPc (g : WG) (as : List Value) (M : MM) : Array Value → State → Prop := fun v U => v = (as.map (ev g)).toArray ∧ va_P (gD g) vwCl (wsM g M) U.heap ∧ va_D (gA g) (wsM g M) ∧ va_K (gD g) vwCl (gtys g) U ∧ Ext g U
def cQc (g : WG) (Q : Option Value → MM → Prop) : Array Value → State → Outcome → State → Prop := fun _ st o t => ∃ (r : Option Value) (M' : MM), o = .returned (r.map (ev g)) ∧ Q r M' ∧ va_P (gD g) vwCl (wsM g M') t.heap ∧ va_F (gA g) st t
/-- a method's contract: whatever T grants of a call, its end has -/
def Ct (l : Launch) (g : WG) (y : MethodName) (cc : ByteArray) (nL : Nat) (ret : Option FieldType) (d : Nat) (T : PT) : Prop :=
  ∀ (as : List Value) (M : MM) (Q : Option Value → MM → Prop), T as M Q → Met l y (.code y cc nL ret :: TT) (rmD d) (cPc g as M) (cQc g Q) 0 0 (gA g)
def lent : Nat → List Value → List (Nat × Value)
  | _, [] => []
  | i, v :: t => (i, v) :: lent (i + 1) t
def i_start (as : List Value) (M0 : MM) (lv : List (Nat × Value)) (st : List Value) (M : MM) : Prop := lv = lent 0 as ∧ st = [] ∧ M = M0
section ROWS
variable {p : Program} {l : Launch} {e : Env} {d : Nat} {s : State} {m : MethodId} {args : Array Value} {below : List Frame} {meth : Method} {c : Code}
variable {cc : ByteArray} {nL : Nat} {own : String} {ret : Option FieldType} {g : WG} {Qf : State → Prop} {pc : Nat} {K KT KF : PP}
/-! rows -/
theorem s_of {P P' : PP} (h : ∀ lv st M, P lv st M → P' lv st M) (k : Sj p l e d s m args below meth c nL g Qf pc P') : Sj p l e d s m args below meth c nL g Qf pc P := fun lv st M H locs ls hp => k lv st M H locs ls (h lv st M hp)
theorem s_keep (ks : List Nat) (k : Sj p l e d s m args below meth c nL g Qf pc K) : Sj p l e d s m args below meth c nL g Qf pc (i_keep ks K) := by
  intro lv st M H locs ls h hl hP hD hS
  refine k _ _ _ _ _ _ h (lv_mono hl fun q hq => ?_) hP hD hS
  obtain ⟨r, hr, rfl⟩ := List.mem_map.mp hq
  exact List.mem_map.mpr ⟨r, mem_lkeep hr, rfl⟩
theorem s_iconst (C : Cx p s m args meth c cc nL own ret g) {n : Int} (v : Int32) (hd : decode cc pc = .ok (.iconst n, 1)) (hv : Int32.ofInt n = v) (k : Sj p l e d s m args below meth c nL g Qf (pc + 1) K) : Sj p l e d s m args below meth c nL g Qf pc (i_const v K) :=
  fun lv st M H locs ls h hl hP hD hS => lv_iconst C.1 C.2.1 hd hv (k _ _ _ _ _ _ h hl hP hD hS)
theorem s_bipush (C : Cx p s m args meth c cc nL own ret g) {n : Int} (v : Int32) (hd : decode cc pc = .ok (.bipush n, 2)) (hv : (Int8.ofInt n).toInt32 = v) (k : Sj p l e d s m args below meth c nL g Qf (pc + 2) K) : Sj p l e d s m args below meth c nL g Qf pc (i_const v K) :=
  fun lv st M H locs ls h hl hP hD hS => lv_bipush C.1 C.2.1 hd hv (k _ _ _ _ _ _ h hl hP hD hS)
theorem s_sipush (C : Cx p s m args meth c cc nL own ret g) {n : Int} (v : Int32) (hd : decode cc pc = .ok (.sipush n, 3)) (hv : (Int16.ofInt n).toInt32 = v) (k : Sj p l e d s m args below meth c nL g Qf (pc + 3) K) : Sj p l e d s m args below meth c nL g Qf pc (i_const v K) :=
  fun lv st M H locs ls h hl hP hD hS => lv_sipush C.1 C.2.1 hd hv (k _ _ _ _ _ _ h hl hP hD hS)
theorem s_ldc (C : Cx p s m args meth c cc nL own ret g) {ix : Nat} (v : Int32) (hw : Cond.constant own ix v ∈ TT) (hd : decode cc pc = .ok (.ldc ix, 2)) (k : Sj p l e d s m args below meth c nL g Qf (pc + 2) K) : Sj p l e d s m args below meth c nL g Qf pc (i_const v K) :=
  fun lv st M H locs ls h hl hP hD hS => lv_ldc C.1 C.2.1 C.2.2.2.1 (C.2.2.2.2.1 _ hw) hd (k _ _ _ _ _ _ h hl hP hD hS)
theorem s_ldcw (C : Cx p s m args meth c cc nL own ret g) {ix : Nat} (v : Int32) (hw : Cond.constant own ix v ∈ TT) (hd : decode cc pc = .ok (.ldc_w ix, 3)) (k : Sj p l e d s m args below meth c nL g Qf (pc + 3) K) : Sj p l e d s m args below meth c nL g Qf pc (i_const v K) :=
  fun lv st M H locs ls h hl hP hD hS => lv_ldcw C.1 C.2.1 C.2.2.2.1 (C.2.2.2.2.1 _ hw) hd (k _ _ _ _ _ _ h hl hP hD hS)
theorem s_ldc2 (C : Cx p s m args meth c cc nL own ret g) {ix : Nat} (v : Int64) (hw : Cond.constantLong own ix v ∈ TT) (hd : decode cc pc = .ok (.ldc2_w ix, 3)) (k : Sj p l e d s m args below meth c nL g Qf (pc + 3) K) : Sj p l e d s m args below meth c nL g Qf pc (i_lconst v K) :=
  fun lv st M H locs ls h hl hP hD hS => lv_ldc2 C.1 C.2.1 C.2.2.2.1 (C.2.2.2.2.1 _ hw) hd (k _ _ _ _ _ _ h hl hP hD hS)
theorem s_lconst (C : Cx p s m args meth c cc nL own ret g) {n : Fin 2} (v : Int64) (hd : decode cc pc = .ok (.lconst n, 1)) (hv : Int64.ofNat (n : Nat) = v) (k : Sj p l e d s m args below meth c nL g Qf (pc + 1) K) : Sj p l e d s m args below meth c nL g Qf pc (i_lconst v K) :=
  fun lv st M H locs ls h hl hP hD hS => lv_lconst C.1 C.2.1 hd hv (k _ _ _ _ _ _ h hl hP hD hS)
theorem s_iload (C : Cx p s m args meth c cc nL own ret g) {i : Nat} (hd : decode cc pc = .ok (.iload i, 2)) (k : Sj p l e d s m args below meth c nL g Qf (pc + 2) K) : Sj p l e d s m args below meth c nL g Qf pc (i_iload i K) := by
  intro lv st M H locs ls h hl hP hD hS
  unfold i_iload at h
  split at h
  · next x hx => exact lv_iload C.1 C.2.1 hd (lg_at hl hx) (k _ _ _ _ _ _ h hl hP hD hS)
  · exact h.elim
theorem s_iload_n (C : Cx p s m args meth c cc nL own ret g) {f : Fin 4} (i : Nat) (hd : decode cc pc = .ok (.iload_n f, 1)) (hi : (f : Nat) = i) (k : Sj p l e d s m args below meth c nL g Qf (pc + 1) K) : Sj p l e d s m args below meth c nL g Qf pc (i_iload i K) := by
  intro lv st M H locs ls h hl hP hD hS
  unfold i_iload at h
  split at h
  · next x hx => exact lv_iload_n C.1 C.2.1 hd hi (lg_at hl hx) (k _ _ _ _ _ _ h hl hP hD hS)
  · exact h.elim
theorem s_aload (C : Cx p s m args meth c cc nL own ret g) {i : Nat} (hd : decode cc pc = .ok (.aload i, 2)) (k : Sj p l e d s m args below meth c nL g Qf (pc + 2) K) : Sj p l e d s m args below meth c nL g Qf pc (i_aload i K) := by
  intro lv st M H locs ls h hl hP hD hS
  unfold i_aload at h
  split at h
  · next x hx => exact lv_aload C.1 C.2.1 hd (lg_at hl hx) (k _ _ _ _ _ _ h hl hP hD hS)
  · exact h.elim
theorem s_aload_n (C : Cx p s m args meth c cc nL own ret g) {f : Fin 4} (i : Nat) (hd : decode cc pc = .ok (.aload_n f, 1)) (hi : (f : Nat) = i) (k : Sj p l e d s m args below meth c nL g Qf (pc + 1) K) : Sj p l e d s m args below meth c nL g Qf pc (i_aload i K) := by
  intro lv st M H locs ls h hl hP hD hS
  unfold i_aload at h
  split at h
  · next x hx => exact lv_aload_n C.1 C.2.1 hd hi (lg_at hl hx) (k _ _ _ _ _ _ h hl hP hD hS)
  · exact h.elim
theorem s_lload (C : Cx p s m args meth c cc nL own ret g) {i : Nat} (hd : decode cc pc = .ok (.lload i, 2)) (k : Sj p l e d s m args below meth c nL g Qf (pc + 2) K) : Sj p l e d s m args below meth c nL g Qf pc (i_lload i K) := by
  intro lv st M H locs ls h hl hP hD hS
  unfold i_lload at h
  split at h
  · next x hx => exact lv_lload C.1 C.2.1 hd (lg_at hl hx) (k _ _ _ _ _ _ h hl hP hD hS)
  · exact h.elim
theorem s_istore (C : Cx p s m args meth c cc nL own ret g) {i : Nat} (hd : decode cc pc = .ok (.istore i, 2)) (hn : i < nL) (k : Sj p l e d s m args below meth c nL g Qf (pc + 2) K) : Sj p l e d s m args below meth c nL g Qf pc (i_istore i K) := by
  intro lv st M H locs ls h hl hP hD hS
  unfold i_istore at h
  split at h
  · exact lv_istore C.1 C.2.1 hd hl hn rfl (fun ls' hl' => k _ _ _ _ _ _ h (lset_of hl') hP hD hS)
  · exact h.elim
theorem s_istore_n (C : Cx p s m args meth c cc nL own ret g) {f : Fin 4} (i : Nat) (hd : decode cc pc = .ok (.istore_n f, 1)) (hi : (f : Nat) = i) (hn : i < nL) (k : Sj p l e d s m args below meth c nL g Qf (pc + 1) K) : Sj p l e d s m args below meth c nL g Qf pc (i_istore i K) := by
  intro lv st M H locs ls h hl hP hD hS
  unfold i_istore at h
  split at h
  · exact lv_istore_n C.1 C.2.1 hd hi hl hn rfl (fun ls' hl' => k _ _ _ _ _ _ h (lset_of hl') hP hD hS)
  · exact h.elim
theorem s_astore (C : Cx p s m args meth c cc nL own ret g) {i : Nat} (hd : decode cc pc = .ok (.astore i, 2)) (hn : i < nL) (k : Sj p l e d s m args below meth c nL g Qf (pc + 2) K) : Sj p l e d s m args below meth c nL g Qf pc (i_astore i K) := by
  intro lv st M H locs ls h hl hP hD hS
  unfold i_astore at h
  split at h
  · exact lv_astore C.1 C.2.1 hd hl hn rfl (fun ls' hl' => k _ _ _ _ _ _ h (lset_of (v := .ref _) hl') hP hD hS)
  · exact h.elim
theorem s_astore_n (C : Cx p s m args meth c cc nL own ret g) {f : Fin 4} (i : Nat) (hd : decode cc pc = .ok (.astore_n f, 1)) (hi : (f : Nat) = i) (hn : i < nL) (k : Sj p l e d s m args below meth c nL g Qf (pc + 1) K) : Sj p l e d s m args below meth c nL g Qf pc (i_astore i K) := by
  intro lv st M H locs ls h hl hP hD hS
  unfold i_astore at h
  split at h
  · exact lv_astore_n C.1 C.2.1 hd hi hl hn rfl (fun ls' hl' => k _ _ _ _ _ _ h (lset_of (v := .ref _) hl') hP hD hS)
  · exact h.elim
theorem s_lstore (C : Cx p s m args meth c cc nL own ret g) {i : Nat} (hd : decode cc pc = .ok (.lstore i, 2)) (hn : i + 1 < nL) (k : Sj p l e d s m args below meth c nL g Qf (pc + 2) K) : Sj p l e d s m args below meth c nL g Qf pc (i_lstore i K) := by
  intro lv st M H locs ls h hl hP hD hS
  unfold i_lstore at h
  split at h
  · exact lv_lstore C.1 C.2.1 hd hl hn rfl (fun ls' hl' => k _ _ _ _ _ _ h (lset2_of hl') hP hD hS)
  · exact h.elim
theorem s_iinc (C : Cx p s m args meth c cc nL own ret g) {i : Nat} {n : Int} (v : Int32) (hd : decode cc pc = .ok (.iinc i n, 3)) (hv : Int32.ofInt n = v) (hn : i < nL) (k : Sj p l e d s m args below meth c nL g Qf (pc + 3) K) : Sj p l e d s m args below meth c nL g Qf pc (i_iinc i v K) := by
  intro lv st M H locs ls h hl hP hD hS
  unfold i_iinc at h
  split at h
  · next x hx =>
    have h1 : (i, Value.int x) ∈ evL g lv := by
      have h2 := lg_at hl hx
      exact List.mem_map.mpr ⟨(i, .int x), by
        clear h2 h hP hD hS hl
        induction lv with
        | nil => cases hx
        | cons q t ih =>
          obtain ⟨k, w⟩ := q
          simp only [lg] at hx
          cases hk : k == i with
          | true => rw [hk] at hx; cases hx; rw [beq_iff_eq] at hk; subst hk; exact List.mem_cons_self
          | false => rw [hk] at hx; exact List.mem_cons_of_mem _ (ih hx), rfl⟩
    obtain ⟨j, hj⟩ := List.getElem?_of_mem h1
    exact lv_iinc C.1 C.2.1 hd hl hj (by rw [hv]) hn rfl (fun ls' hl' => k _ _ _ _ _ _ (h _ rfl) (lset_of hl') hP hD hS)
  · exact h.elim
def f_iadd : Int32 → Int32 → Int32 := fun x y => x + y
theorem s_iadd (C : Cx p s m args meth c cc nL own ret g) (hd : decode cc pc = .ok (.iadd, 1)) (k : Sj p l e d s m args below meth c nL g Qf (pc + 1) K) : Sj p l e d s m args below meth c nL g Qf pc (i_bin f_iadd K) := by
  intro lv st M H locs ls h hl hP hD hS
  unfold i_bin at h
  split at h
  · exact lv_iadd C.1 C.2.1 hd (k _ _ _ _ _ _ (h _ rfl) hl hP hD hS)
  · exact h.elim
def f_isub : Int32 → Int32 → Int32 := fun x y => x - y
theorem s_isub (C : Cx p s m args meth c cc nL own ret g) (hd : decode cc pc = .ok (.isub, 1)) (k : Sj p l e d s m args below meth c nL g Qf (pc + 1) K) : Sj p l e d s m args below meth c nL g Qf pc (i_bin f_isub K) := by
  intro lv st M H locs ls h hl hP hD hS
  unfold i_bin at h
  split at h
  · exact lv_isub C.1 C.2.1 hd (k _ _ _ _ _ _ (h _ rfl) hl hP hD hS)
  · exact h.elim
def f_imul : Int32 → Int32 → Int32 := fun x y => x * y
theorem s_imul (C : Cx p s m args meth c cc nL own ret g) (hd : decode cc pc = .ok (.imul, 1)) (k : Sj p l e d s m args below meth c nL g Qf (pc + 1) K) : Sj p l e d s m args below meth c nL g Qf pc (i_bin f_imul K) := by
  intro lv st M H locs ls h hl hP hD hS
  unfold i_bin at h
  split at h
  · exact lv_imul C.1 C.2.1 hd (k _ _ _ _ _ _ (h _ rfl) hl hP hD hS)
  · exact h.elim
def f_ishl : Int32 → Int32 → Int32 := fun x y => x <<< (y &&& 31)
theorem s_ishl (C : Cx p s m args meth c cc nL own ret g) (hd : decode cc pc = .ok (.ishl, 1)) (k : Sj p l e d s m args below meth c nL g Qf (pc + 1) K) : Sj p l e d s m args below meth c nL g Qf pc (i_bin f_ishl K) := by
  intro lv st M H locs ls h hl hP hD hS
  unfold i_bin at h
  split at h
  · exact lv_ishl C.1 C.2.1 hd (k _ _ _ _ _ _ (h _ rfl) hl hP hD hS)
  · exact h.elim
def f_ishr : Int32 → Int32 → Int32 := fun x y => x >>> (y &&& 31)
theorem s_ishr (C : Cx p s m args meth c cc nL own ret g) (hd : decode cc pc = .ok (.ishr, 1)) (k : Sj p l e d s m args below meth c nL g Qf (pc + 1) K) : Sj p l e d s m args below meth c nL g Qf pc (i_bin f_ishr K) := by
  intro lv st M H locs ls h hl hP hD hS
  unfold i_bin at h
  split at h
  · exact lv_ishr C.1 C.2.1 hd (k _ _ _ _ _ _ (h _ rfl) hl hP hD hS)
  · exact h.elim
def f_iushr : Int32 → Int32 → Int32 := fun x y => (x.toUInt32 >>> (y.toUInt32 &&& Int32.toUInt32 31)).toInt32
theorem s_iushr (C : Cx p s m args meth c cc nL own ret g) (hd : decode cc pc = .ok (.iushr, 1)) (k : Sj p l e d s m args below meth c nL g Qf (pc + 1) K) : Sj p l e d s m args below meth c nL g Qf pc (i_bin f_iushr K) := by
  intro lv st M H locs ls h hl hP hD hS
  unfold i_bin at h
  split at h
  · exact lv_iushr C.1 C.2.1 hd rfl (k _ _ _ _ _ _ (h _ rfl) hl hP hD hS)
  · exact h.elim
def f_iand : Int32 → Int32 → Int32 := fun x y => x &&& y
theorem s_iand (C : Cx p s m args meth c cc nL own ret g) (hd : decode cc pc = .ok (.iand, 1)) (k : Sj p l e d s m args below meth c nL g Qf (pc + 1) K) : Sj p l e d s m args below meth c nL g Qf pc (i_bin f_iand K) := by
  intro lv st M H locs ls h hl hP hD hS
  unfold i_bin at h
  split at h
  · exact lv_iand C.1 C.2.1 hd (k _ _ _ _ _ _ (h _ rfl) hl hP hD hS)
  · exact h.elim
def f_ior : Int32 → Int32 → Int32 := fun x y => x ||| y
theorem s_ior (C : Cx p s m args meth c cc nL own ret g) (hd : decode cc pc = .ok (.ior, 1)) (k : Sj p l e d s m args below meth c nL g Qf (pc + 1) K) : Sj p l e d s m args below meth c nL g Qf pc (i_bin f_ior K) := by
  intro lv st M H locs ls h hl hP hD hS
  unfold i_bin at h
  split at h
  · exact lv_ior C.1 C.2.1 hd (k _ _ _ _ _ _ (h _ rfl) hl hP hD hS)
  · exact h.elim
def f_idiv : Int32 → Int32 → Int32 := fun x y => x / y
theorem s_idiv (C : Cx p s m args meth c cc nL own ret g) (hd : decode cc pc = .ok (.idiv, 1)) (k : Sj p l e d s m args below meth c nL g Qf (pc + 1) K) : Sj p l e d s m args below meth c nL g Qf pc (i_div f_idiv K) := by
  intro lv st M H locs ls h hl hP hD hS
  unfold i_div at h
  split at h
  · exact lv_idiv C.1 C.2.1 hd h.1 (k _ _ _ _ _ _ (h.2 _ rfl) hl hP hD hS)
  · exact h.elim
def f_irem : Int32 → Int32 → Int32 := fun x y => x - x / y * y
theorem s_irem (C : Cx p s m args meth c cc nL own ret g) (hd : decode cc pc = .ok (.irem, 1)) (k : Sj p l e d s m args below meth c nL g Qf (pc + 1) K) : Sj p l e d s m args below meth c nL g Qf pc (i_div f_irem K) := by
  intro lv st M H locs ls h hl hP hD hS
  unfold i_div at h
  split at h
  · exact lv_irem C.1 C.2.1 hd h.1 (k _ _ _ _ _ _ (h.2 _ rfl) hl hP hD hS)
  · exact h.elim
def f_ineg : Int32 → Int32 := fun x => -x
theorem s_ineg (C : Cx p s m args meth c cc nL own ret g) (hd : decode cc pc = .ok (.ineg, 1)) (k : Sj p l e d s m args below meth c nL g Qf (pc + 1) K) : Sj p l e d s m args below meth c nL g Qf pc (i_un f_ineg K) := by
  intro lv st M H locs ls h hl hP hD hS
  unfold i_un at h
  split at h
  · exact lv_ineg C.1 C.2.1 hd (k _ _ _ _ _ _ (h _ rfl) hl hP hD hS)
  · exact h.elim
def f_i2b : Int32 → Int32 := fun x => x.toInt8.toInt32
theorem s_i2b (C : Cx p s m args meth c cc nL own ret g) (hd : decode cc pc = .ok (.i2b, 1)) (k : Sj p l e d s m args below meth c nL g Qf (pc + 1) K) : Sj p l e d s m args below meth c nL g Qf pc (i_un f_i2b K) := by
  intro lv st M H locs ls h hl hP hD hS
  unfold i_un at h
  split at h
  · exact lv_i2b C.1 C.2.1 hd rfl (k _ _ _ _ _ _ (h _ rfl) hl hP hD hS)
  · exact h.elim
def f_i2s : Int32 → Int32 := fun x => x.toInt16.toInt32
theorem s_i2s (C : Cx p s m args meth c cc nL own ret g) (hd : decode cc pc = .ok (.i2s, 1)) (k : Sj p l e d s m args below meth c nL g Qf (pc + 1) K) : Sj p l e d s m args below meth c nL g Qf pc (i_un f_i2s K) := by
  intro lv st M H locs ls h hl hP hD hS
  unfold i_un at h
  split at h
  · exact lv_i2s C.1 C.2.1 hd rfl (k _ _ _ _ _ _ (h _ rfl) hl hP hD hS)
  · exact h.elim
theorem s_i2l (C : Cx p s m args meth c cc nL own ret g) (hd : decode cc pc = .ok (.i2l, 1)) (k : Sj p l e d s m args below meth c nL g Qf (pc + 1) K) : Sj p l e d s m args below meth c nL g Qf pc (i_i2l K) := by
  intro lv st M H locs ls h hl hP hD hS
  unfold i_i2l at h
  split at h
  · exact lv_i2l C.1 C.2.1 hd rfl (k _ _ _ _ _ _ (h _ rfl) hl hP hD hS)
  · exact h.elim
theorem s_l2i (C : Cx p s m args meth c cc nL own ret g) (hd : decode cc pc = .ok (.l2i, 1)) (k : Sj p l e d s m args below meth c nL g Qf (pc + 1) K) : Sj p l e d s m args below meth c nL g Qf pc (i_l2i K) := by
  intro lv st M H locs ls h hl hP hD hS
  unfold i_l2i at h
  split at h
  · exact lv_l2i C.1 C.2.1 hd rfl (k _ _ _ _ _ _ (h _ rfl) hl hP hD hS)
  · exact h.elim
theorem s_lcmp (C : Cx p s m args meth c cc nL own ret g) (hd : decode cc pc = .ok (.lcmp, 1)) (k : Sj p l e d s m args below meth c nL g Qf (pc + 1) K) : Sj p l e d s m args below meth c nL g Qf pc (i_lcmp K) := by
  intro lv st M H locs ls h hl hP hD hS
  unfold i_lcmp at h
  split at h
  · exact W.lcmp C.1 C.2.1 hd (k _ _ _ _ _ _ (h _ rfl) hl hP hD hS)
  · exact h.elim
def f_ladd : Int64 → Int64 → Int64 := fun x y => x + y
theorem s_ladd (C : Cx p s m args meth c cc nL own ret g) (hd : decode cc pc = .ok (.ladd, 1)) (k : Sj p l e d s m args below meth c nL g Qf (pc + 1) K) : Sj p l e d s m args below meth c nL g Qf pc (i_lbin f_ladd K) := by
  intro lv st M H locs ls h hl hP hD hS
  unfold i_lbin at h
  split at h
  · exact lv_ladd C.1 C.2.1 hd (k _ _ _ _ _ _ (h _ rfl) hl hP hD hS)
  · exact h.elim
def f_lmul : Int64 → Int64 → Int64 := fun x y => x * y
theorem s_lmul (C : Cx p s m args meth c cc nL own ret g) (hd : decode cc pc = .ok (.lmul, 1)) (k : Sj p l e d s m args below meth c nL g Qf (pc + 1) K) : Sj p l e d s m args below meth c nL g Qf pc (i_lbin f_lmul K) := by
  intro lv st M H locs ls h hl hP hD hS
  unfold i_lbin at h
  split at h
  · exact lv_lmul C.1 C.2.1 hd (k _ _ _ _ _ _ (h _ rfl) hl hP hD hS)
  · exact h.elim
def c_eq : Int32 → Prop := fun x => x = 0
theorem s_if_eq (C : Cx p s m args meth c cc nL own ret g) {off : Int} {tgt : Nat} (hd : decode cc pc = .ok (.ifCond .eq off, 3)) (ht : (pc : Int) + off = (tgt : Int)) (kt : Sj p l e d s m args below meth c nL g Qf tgt KT) (kf : Sj p l e d s m args below meth c nL g Qf (pc + 3) KF) : Sj p l e d s m args below meth c nL g Qf pc (i_if c_eq KT KF) := by
  intro lv st M H locs ls h hl hP hD hS
  unfold i_if at h
  split at h
  · refine lv_if_eq C.1 C.2.1 hd ht (fun q => kt _ _ _ _ _ _ (h.1 q) hl hP hD hS) (fun q => kf _ _ _ _ _ _ (h.2 ?_) hl hP hD hS)
    exact q
  · exact h.elim
def c_ne : Int32 → Prop := fun x => ¬ x = 0
theorem s_if_ne (C : Cx p s m args meth c cc nL own ret g) {off : Int} {tgt : Nat} (hd : decode cc pc = .ok (.ifCond .ne off, 3)) (ht : (pc : Int) + off = (tgt : Int)) (kt : Sj p l e d s m args below meth c nL g Qf tgt KT) (kf : Sj p l e d s m args below meth c nL g Qf (pc + 3) KF) : Sj p l e d s m args below meth c nL g Qf pc (i_if c_ne KT KF) := by
  intro lv st M H locs ls h hl hP hD hS
  unfold i_if at h
  split at h
  · refine lv_if_ne C.1 C.2.1 hd ht (fun q => kt _ _ _ _ _ _ (h.1 q) hl hP hD hS) (fun q => kf _ _ _ _ _ _ (h.2 ?_) hl hP hD hS)
    exact fun z => z q
  · exact h.elim
def c_lt : Int32 → Prop := fun x => x < 0
theorem s_if_lt (C : Cx p s m args meth c cc nL own ret g) {off : Int} {tgt : Nat} (hd : decode cc pc = .ok (.ifCond .lt off, 3)) (ht : (pc : Int) + off = (tgt : Int)) (kt : Sj p l e d s m args below meth c nL g Qf tgt KT) (kf : Sj p l e d s m args below meth c nL g Qf (pc + 3) KF) : Sj p l e d s m args below meth c nL g Qf pc (i_if c_lt KT KF) := by
  intro lv st M H locs ls h hl hP hD hS
  unfold i_if at h
  split at h
  · refine lv_if_lt C.1 C.2.1 hd ht (fun q => kt _ _ _ _ _ _ (h.1 q) hl hP hD hS) (fun q => kf _ _ _ _ _ _ (h.2 ?_) hl hP hD hS)
    exact q
  · exact h.elim
def c_ge : Int32 → Prop := fun x => 0 ≤ x
theorem s_if_ge (C : Cx p s m args meth c cc nL own ret g) {off : Int} {tgt : Nat} (hd : decode cc pc = .ok (.ifCond .ge off, 3)) (ht : (pc : Int) + off = (tgt : Int)) (kt : Sj p l e d s m args below meth c nL g Qf tgt KT) (kf : Sj p l e d s m args below meth c nL g Qf (pc + 3) KF) : Sj p l e d s m args below meth c nL g Qf pc (i_if c_ge KT KF) := by
  intro lv st M H locs ls h hl hP hD hS
  unfold i_if at h
  split at h
  · refine lv_if_ge C.1 C.2.1 hd ht (fun q => kt _ _ _ _ _ _ (h.1 q) hl hP hD hS) (fun q => kf _ _ _ _ _ _ (h.2 ?_) hl hP hD hS)
    exact q
  · exact h.elim
def c_gt : Int32 → Prop := fun x => 0 < x
theorem s_if_gt (C : Cx p s m args meth c cc nL own ret g) {off : Int} {tgt : Nat} (hd : decode cc pc = .ok (.ifCond .gt off, 3)) (ht : (pc : Int) + off = (tgt : Int)) (kt : Sj p l e d s m args below meth c nL g Qf tgt KT) (kf : Sj p l e d s m args below meth c nL g Qf (pc + 3) KF) : Sj p l e d s m args below meth c nL g Qf pc (i_if c_gt KT KF) := by
  intro lv st M H locs ls h hl hP hD hS
  unfold i_if at h
  split at h
  · refine lv_if_gt C.1 C.2.1 hd ht (fun q => kt _ _ _ _ _ _ (h.1 q) hl hP hD hS) (fun q => kf _ _ _ _ _ _ (h.2 ?_) hl hP hD hS)
    exact q
  · exact h.elim
def c_le : Int32 → Prop := fun x => x ≤ 0
theorem s_if_le (C : Cx p s m args meth c cc nL own ret g) {off : Int} {tgt : Nat} (hd : decode cc pc = .ok (.ifCond .le off, 3)) (ht : (pc : Int) + off = (tgt : Int)) (kt : Sj p l e d s m args below meth c nL g Qf tgt KT) (kf : Sj p l e d s m args below meth c nL g Qf (pc + 3) KF) : Sj p l e d s m args below meth c nL g Qf pc (i_if c_le KT KF) := by
  intro lv st M H locs ls h hl hP hD hS
  unfold i_if at h
  split at h
  · refine lv_if_le C.1 C.2.1 hd ht (fun q => kt _ _ _ _ _ _ (h.1 q) hl hP hD hS) (fun q => kf _ _ _ _ _ _ (h.2 ?_) hl hP hD hS)
    exact q
  · exact h.elim
def cc_eq : Int32 → Int32 → Prop := fun x y => x = y
theorem s_icmp_eq (C : Cx p s m args meth c cc nL own ret g) {off : Int} {tgt : Nat} (hd : decode cc pc = .ok (.if_icmp .eq off, 3)) (ht : (pc : Int) + off = (tgt : Int)) (kt : Sj p l e d s m args below meth c nL g Qf tgt KT) (kf : Sj p l e d s m args below meth c nL g Qf (pc + 3) KF) : Sj p l e d s m args below meth c nL g Qf pc (i_icmp cc_eq KT KF) := by
  intro lv st M H locs ls h hl hP hD hS
  unfold i_icmp at h
  split at h
  · refine lv_icmp_eq C.1 C.2.1 hd ht (fun q => kt _ _ _ _ _ _ (h.1 q) hl hP hD hS) (fun q => kf _ _ _ _ _ _ (h.2 ?_) hl hP hD hS)
    exact q
  · exact h.elim
def cc_ne : Int32 → Int32 → Prop := fun x y => ¬ x = y
theorem s_icmp_ne (C : Cx p s m args meth c cc nL own ret g) {off : Int} {tgt : Nat} (hd : decode cc pc = .ok (.if_icmp .ne off, 3)) (ht : (pc : Int) + off = (tgt : Int)) (kt : Sj p l e d s m args below meth c nL g Qf tgt KT) (kf : Sj p l e d s m args below meth c nL g Qf (pc + 3) KF) : Sj p l e d s m args below meth c nL g Qf pc (i_icmp cc_ne KT KF) := by
  intro lv st M H locs ls h hl hP hD hS
  unfold i_icmp at h
  split at h
  · refine lv_icmp_ne C.1 C.2.1 hd ht (fun q => kt _ _ _ _ _ _ (h.1 q) hl hP hD hS) (fun q => kf _ _ _ _ _ _ (h.2 ?_) hl hP hD hS)
    exact fun z => z q
  · exact h.elim
def cc_lt : Int32 → Int32 → Prop := fun x y => x < y
theorem s_icmp_lt (C : Cx p s m args meth c cc nL own ret g) {off : Int} {tgt : Nat} (hd : decode cc pc = .ok (.if_icmp .lt off, 3)) (ht : (pc : Int) + off = (tgt : Int)) (kt : Sj p l e d s m args below meth c nL g Qf tgt KT) (kf : Sj p l e d s m args below meth c nL g Qf (pc + 3) KF) : Sj p l e d s m args below meth c nL g Qf pc (i_icmp cc_lt KT KF) := by
  intro lv st M H locs ls h hl hP hD hS
  unfold i_icmp at h
  split at h
  · refine lv_icmp_lt C.1 C.2.1 hd ht (fun q => kt _ _ _ _ _ _ (h.1 q) hl hP hD hS) (fun q => kf _ _ _ _ _ _ (h.2 ?_) hl hP hD hS)
    exact q
  · exact h.elim
def cc_ge : Int32 → Int32 → Prop := fun x y => y ≤ x
theorem s_icmp_ge (C : Cx p s m args meth c cc nL own ret g) {off : Int} {tgt : Nat} (hd : decode cc pc = .ok (.if_icmp .ge off, 3)) (ht : (pc : Int) + off = (tgt : Int)) (kt : Sj p l e d s m args below meth c nL g Qf tgt KT) (kf : Sj p l e d s m args below meth c nL g Qf (pc + 3) KF) : Sj p l e d s m args below meth c nL g Qf pc (i_icmp cc_ge KT KF) := by
  intro lv st M H locs ls h hl hP hD hS
  unfold i_icmp at h
  split at h
  · refine lv_icmp_ge C.1 C.2.1 hd ht (fun q => kt _ _ _ _ _ _ (h.1 q) hl hP hD hS) (fun q => kf _ _ _ _ _ _ (h.2 ?_) hl hP hD hS)
    exact q
  · exact h.elim
def cc_gt : Int32 → Int32 → Prop := fun x y => y < x
theorem s_icmp_gt (C : Cx p s m args meth c cc nL own ret g) {off : Int} {tgt : Nat} (hd : decode cc pc = .ok (.if_icmp .gt off, 3)) (ht : (pc : Int) + off = (tgt : Int)) (kt : Sj p l e d s m args below meth c nL g Qf tgt KT) (kf : Sj p l e d s m args below meth c nL g Qf (pc + 3) KF) : Sj p l e d s m args below meth c nL g Qf pc (i_icmp cc_gt KT KF) := by
  intro lv st M H locs ls h hl hP hD hS
  unfold i_icmp at h
  split at h
  · refine lv_icmp_gt C.1 C.2.1 hd ht (fun q => kt _ _ _ _ _ _ (h.1 q) hl hP hD hS) (fun q => kf _ _ _ _ _ _ (h.2 ?_) hl hP hD hS)
    exact q
  · exact h.elim
def cc_le : Int32 → Int32 → Prop := fun x y => x ≤ y
theorem s_icmp_le (C : Cx p s m args meth c cc nL own ret g) {off : Int} {tgt : Nat} (hd : decode cc pc = .ok (.if_icmp .le off, 3)) (ht : (pc : Int) + off = (tgt : Int)) (kt : Sj p l e d s m args below meth c nL g Qf tgt KT) (kf : Sj p l e d s m args below meth c nL g Qf (pc + 3) KF) : Sj p l e d s m args below meth c nL g Qf pc (i_icmp cc_le KT KF) := by
  intro lv st M H locs ls h hl hP hD hS
  unfold i_icmp at h
  split at h
  · refine lv_icmp_le C.1 C.2.1 hd ht (fun q => kt _ _ _ _ _ _ (h.1 q) hl hP hD hS) (fun q => kf _ _ _ _ _ _ (h.2 ?_) hl hP hD hS)
    exact q
  · exact h.elim
theorem s_goto (C : Cx p s m args meth c cc nL own ret g) {off : Int} {tgt : Nat} (hd : decode cc pc = .ok (.goto off, 3)) (ht : (pc : Int) + off = (tgt : Int)) (k : Sj p l e d s m args below meth c nL g Qf tgt K) : Sj p l e d s m args below meth c nL g Qf pc K :=
  fun lv st M H locs ls h hl hP hD hS => lv_goto C.1 C.2.1 hd ht (k _ _ _ _ _ _ h hl hP hD hS)
theorem s_dup (C : Cx p s m args meth c cc nL own ret g) (hd : decode cc pc = .ok (.dup, 1)) (k : Sj p l e d s m args below meth c nL g Qf (pc + 1) K) : Sj p l e d s m args below meth c nL g Qf pc (i_dup K) := by
  intro lv st M H locs ls h hl hP hD hS
  unfold i_dup at h
  split at h
  · exact lv_dup C.1 C.2.1 hd ((ev_cat _ _).trans h.1) (k _ _ _ _ _ _ h.2 hl hP hD hS)
  · exact h.elim
theorem s_dup_x1 (C : Cx p s m args meth c cc nL own ret g) (hd : decode cc pc = .ok (.dup_x1, 1)) (k : Sj p l e d s m args below meth c nL g Qf (pc + 1) K) : Sj p l e d s m args below meth c nL g Qf pc (i_dup_x1 K) := by
  intro lv st M H locs ls h hl hP hD hS
  unfold i_dup_x1 at h
  split at h
  · exact lv_dup_x1 C.1 C.2.1 hd ((ev_cat _ _).trans h.1) ((ev_cat _ _).trans h.2.1) (k _ _ _ _ _ _ h.2.2 hl hP hD hS)
  · exact h.elim
theorem s_dup2 (C : Cx p s m args meth c cc nL own ret g) (hd : decode cc pc = .ok (.dup2, 1)) (k : Sj p l e d s m args below meth c nL g Qf (pc + 1) K) : Sj p l e d s m args below meth c nL g Qf pc (i_dup2 K) := by
  intro lv st M H locs ls h hl hP hD hS
  unfold i_dup2 at h
  split at h
  · exact lv_dup2_11 C.1 C.2.1 hd ((ev_cat _ _).trans h.1) ((ev_cat _ _).trans h.2.1) (k _ _ _ _ _ _ h.2.2 hl hP hD hS)
  · exact h.elim
theorem s_pop (C : Cx p s m args meth c cc nL own ret g) (hd : decode cc pc = .ok (.pop, 1)) (k : Sj p l e d s m args below meth c nL g Qf (pc + 1) K) : Sj p l e d s m args below meth c nL g Qf pc (i_pop K) := by
  intro lv st M H locs ls h hl hP hD hS
  unfold i_pop at h
  split at h
  · exact lv_pop C.1 C.2.1 hd ((ev_cat _ _).trans h.1) (k _ _ _ _ _ _ h.2 hl hP hD hS)
  · exact h.elim
/-- the targets of a switch, side by side with its cases -/
def SjL (p : Program) (l : Launch) (e : Env) (d : Nat) (s : State) (m : MethodId) (args : Array Value) (below : List Frame) (meth : Method) (c : Code) (nL : Nat) (g : WG) (Qf : State → Prop) : List Nat → List (Int32 × PP) → Prop
  | [], [] => True
  | t :: ts, q :: qs => Sj p l e d s m args below meth c nL g Qf t q.2 ∧ SjL p l e d s m args below meth c nL g Qf ts qs
  | _, _ => False
theorem sjl_0 : SjL p l e d s m args below meth c nL g Qf [] [] := trivial
theorem sjl_c {t : Nat} {q : Int32 × PP} {ts : List Nat} {qs : List (Int32 × PP)} (h : Sj p l e d s m args below meth c nL g Qf t q.2) (h2 : SjL p l e d s m args below meth c nL g Qf ts qs) : SjL p l e d s m args below meth c nL g Qf (t :: ts) (q :: qs) := ⟨h, h2⟩
theorem sjl_at : ∀ {ts : List Nat} {qs : List (Int32 × PP)}, SjL p l e d s m args below meth c nL g Qf ts qs → ∀ {q : Int32 × PP}, q ∈ qs → ∃ t, (q.1, t) ∈ (qs.map Prod.fst).zip ts ∧ Sj p l e d s m args below meth c nL g Qf t q.2
  | [], [], _, q, hq => by simp at hq
  | t :: ts, q0 :: qs, h, q, hq => by
    rcases List.mem_cons.mp hq with hq | hq
    · exact ⟨t, by simp [hq], by rw [hq]; exact h.1⟩
    · obtain ⟨t', a, d'⟩ := sjl_at h.2 hq
      exact ⟨t', by simp only [List.map_cons, List.zip_cons_cons]; exact List.mem_cons_of_mem _ a, d'⟩
  | [], q :: qs, h, _, _ => h.elim
  | t :: ts, [], h, _, _ => h.elim
def tb_ok (pc : Nat) (dflt lo hi : Int) (offs : List Int) (vt : List (Int32 × Nat)) (dt : Nat) : Bool :=
  decide ((pc : Int) + dflt = dt) && decide (hi = lo + offs.length - 1) && vt.all (fun q => decide (lo ≤ q.1.toInt) && decide (q.1.toInt ≤ hi) && decide (offs[(q.1.toInt - lo).toNat]? = some ((q.2 : Int) - pc))) &&
  (List.range offs.length).all (fun i => vt.any (fun q => decide (q.1.toInt = lo + i)) || decide (offs[i]? = some ((dt : Int) - pc)))
theorem s_table (C : Cx p s m args meth c cc nL own ret g) {dflt lo hi : Int} {offs : Array Int} {len : Nat} (ts : List Nat) (vs : List Int32) (dt : Nat) {cs : List (Int32 × PP)} (hd : decode cc pc = .ok (.tableswitch dflt lo hi offs, len)) (hv : cs.map Prod.fst = vs) (hc : tb_ok pc dflt lo hi offs.toList (vs.zip ts) dt = true) (hk : SjL p l e d s m args below meth c nL g Qf ts cs) (k : Sj p l e d s m args below meth c nL g Qf dt K) : Sj p l e d s m args below meth c nL g Qf pc (i_sw cs K) := by
  intro lv st M H locs ls h hl hP hD hS
  unfold i_sw at h
  simp only [tb_ok, Bool.and_eq_true, decide_eq_true_eq, List.all_eq_true, Bool.or_eq_true, List.any_eq_true] at hc
  obtain ⟨⟨⟨h1, h2⟩, h3⟩, h4⟩ := hc
  split at h
  · next x r =>
    rcases swc_of h with ⟨q, b, rfl, hq2⟩ | ⟨hx, h⟩
    · obtain ⟨t, a, kq⟩ := sjl_at hk b
      rw [hv] at a
      obtain ⟨⟨g1, g2⟩, g3⟩ := h3 _ a
      dsimp only at g1 g2 g3
      refine lv_tableIn (off := (t : Int) - pc) (tgt := t) C.1 C.2.1 hd (by omega) (by omega) ?_ (by omega) (kq _ _ _ _ _ _ hq2 hl hP hD hS)
      rw [← Array.getElem?_toList]; exact g3
    · have kd := k _ _ _ _ _ _ h hl hP hD hS
      by_cases ho : x.toInt < lo ∨ hi < x.toInt
      · exact lv_tableOut C.1 C.2.1 hd ho h1 kd
      · have hr : (x.toInt - lo).toNat < offs.toList.length := by omega
        rcases h4 _ (List.mem_range.mpr hr) with ⟨q, hq, e⟩ | g3
        · refine absurd ?_ hx
          have e2 : x = q.1 := Int32.toInt_inj.mp (by omega)
          rw [hv, e2]
          exact (List.of_mem_zip (a := q.1) (b := q.2) hq).1
        · refine lv_tableIn (off := (dt : Int) - pc) (tgt := dt) C.1 C.2.1 hd (by omega) (by omega) ?_ (by omega) kd
          rw [← Array.getElem?_toList]; exact g3
  · exact h.elim
def lk_ok (pc : Nat) (dflt : Int) (ps : List (Int × Int)) (vt : List (Int32 × Nat)) (dt : Nat) : Bool :=
  decide ((pc : Int) + dflt = dt) && decide (ps = vt.map fun q => (q.1.toInt, (q.2 : Int) - pc)) && (ps.zip (ps.drop 1)).all (fun q => decide (q.1.1 < q.2.1))
theorem lk_in {dflt : Int} {pc : Nat} {x : Int32} {t : Nat} : ∀ {vt : List (Int32 × Nat)}, (vt.map Prod.fst).Nodup → (x, t) ∈ vt → Op.lookupswitch.offset (vt.map fun q => (q.1.toInt, (q.2 : Int) - pc)) dflt x.toInt = (t : Int) - pc
  | [], _, h => by simp at h
  | (y, u) :: vt, hn, h => by
    simp only [List.map_cons, List.nodup_cons] at hn
    simp only [List.map_cons, Op.lookupswitch.offset_cons]
    rcases List.mem_cons.mp h with h | h
    · cases h; simp
    · rw [if_neg, lk_in hn.2 h]
      intro e
      exact hn.1 (by rw [Int32.toInt_inj.mp e]; exact List.mem_map.mpr ⟨_, h, rfl⟩)
theorem lk_out {dflt : Int} {pc : Nat} {x : Int32} : ∀ {vt : List (Int32 × Nat)}, ¬ x ∈ vt.map Prod.fst → Op.lookupswitch.offset (vt.map fun q => (q.1.toInt, (q.2 : Int) - pc)) dflt x.toInt = dflt
  | [], _ => rfl
  | (y, u) :: vt, h => by
    simp only [List.map_cons, List.mem_cons, not_or] at h
    simp only [List.map_cons, Op.lookupswitch.offset_cons]
    rw [if_neg (fun e => h.1 (Int32.toInt_inj.mp e).symm), lk_out h.2]
theorem s_lookup (C : Cx p s m args meth c cc nL own ret g) {dflt : Int} {ps : Array (Int × Int)} {len : Nat} (ts : List Nat) (vs : List Int32) (dt : Nat) {cs : List (Int32 × PP)} (hd : decode cc pc = .ok (.lookupswitch dflt ps, len)) (hv : cs.map Prod.fst = vs) (hn : vs.Nodup) (hlen : vs.length = ts.length) (hc : lk_ok pc dflt ps.toList (vs.zip ts) dt = true) (hk : SjL p l e d s m args below meth c nL g Qf ts cs) (k : Sj p l e d s m args below meth c nL g Qf dt K) : Sj p l e d s m args below meth c nL g Qf pc (i_sw cs K) := by
  intro lv st M H locs ls h hl hP hD hS
  unfold i_sw at h
  simp only [lk_ok, Bool.and_eq_true, decide_eq_true_eq] at hc
  obtain ⟨⟨h1, h2⟩, h3⟩ := hc
  have hz : (vs.zip ts).map Prod.fst = vs := List.map_fst_zip (by omega)
  split at h
  · next x r =>
    rcases swc_of h with ⟨q, b, rfl, hq2⟩ | ⟨hx, h⟩
    · obtain ⟨t, a, kq⟩ := sjl_at hk b
      rw [hv] at a
      exact lv_lookup (off := (t : Int) - pc) (tgt := t) C.1 C.2.1 hd h3 (by rw [h2]; exact lk_in (by rw [hz]; exact hn) a) (by omega) (kq _ _ _ _ _ _ hq2 hl hP hD hS)
    · exact lv_lookup (off := dflt) (tgt := dt) C.1 C.2.1 hd h3 (by rw [h2]; exact lk_out (by rw [hz, ← hv]; exact hx)) h1 (k _ _ _ _ _ _ h hl hP hD hS)
  · exact h.elim
theorem s_geti (C : Cx p s m args meth c cc nL own ret g) {ix : Nat} {ref R : String} {T : u_T} {N : Nat} (k j : Nat) (hcl : vwCl[k]? = some (R, T, N)) (hin : ∀ w ∈ u_ws R T N, w ∈ TT) (hN : nf k = N) (hk7 : k < 7) (hj : j < N) (hw : Cond.fieldLink own ix ref (T j).2.1 (T j).2.2.1 ∈ TT) (hsame : (T j).1 = ref) (hs : sty k j = 0) (hd : decode cc pc = .ok (.getfield ix, 3)) (kk : Sj p l e d s m args below meth c nL g Qf (pc + 3) K) : Sj p l e d s m args below meth c nL g Qf pc (i_geti g k j K) := by
  intro lv st M H locs ls h hl hP hD hS
  unfold i_geti at h
  split at h
  · next q r =>
    obtain ⟨⟨o1, o2, o3⟩, h⟩ := h
    obtain ⟨i, hi1, hi2⟩ := wsM_in (g := g) M o1
    have hf : fv g M q j = .int (M q j) := by simp only [fv, o2]; rw [if_pos hs]
    have he : eE g M q = .inr (k, (List.range N).map (fun j => ev g (fv g M q j))) := by simp only [eE, o2, hN]; rw [if_pos hk7]
    rw [he] at hi2
    have h := h _ rfl
    exact va_get (v := ev g (.int (M q j))) C.1 C.2.1 C.2.2.2.2.1 hin C.2.2.2.1 C.2.2.2.2.2.2.2.1 hP i hi2 hcl j hj (C.2.2.2.2.1 _ hw) (fun x hx => by rw [← hsame]; exact hx) (by simp [hj, hf]) hd (kk _ _ _ _ _ _ h hl hP hD hS)
  · exact h.elim
theorem s_getr (C : Cx p s m args meth c cc nL own ret g) {ix : Nat} {ref R : String} {T : u_T} {N : Nat} (k j : Nat) (hcl : vwCl[k]? = some (R, T, N)) (hin : ∀ w ∈ u_ws R T N, w ∈ TT) (hN : nf k = N) (hk7 : k < 7) (hj : j < N) (hw : Cond.fieldLink own ix ref (T j).2.1 (T j).2.2.1 ∈ TT) (hsame : (T j).1 = ref) (hs : sty k j = 1) (hd : decode cc pc = .ok (.getfield ix, 3)) (kk : Sj p l e d s m args below meth c nL g Qf (pc + 3) K) : Sj p l e d s m args below meth c nL g Qf pc (i_getr g k j K) := by
  intro lv st M H locs ls h hl hP hD hS
  unfold i_getr at h
  split at h
  · next q r =>
    obtain ⟨⟨o1, o2, o3⟩, h⟩ := h
    obtain ⟨i, hi1, hi2⟩ := wsM_in (g := g) M o1
    have hf : fv g M q j = .ref (q + rfo k j) := by simp only [fv, o2]; rw [if_neg (by omega), if_pos ⟨hs, o3⟩]
    have he : eE g M q = .inr (k, (List.range N).map (fun j => ev g (fv g M q j))) := by simp only [eE, o2, hN]; rw [if_pos hk7]
    rw [he] at hi2
    skip
    exact va_get (v := ev g (.ref (q + rfo k j))) C.1 C.2.1 C.2.2.2.2.1 hin C.2.2.2.1 C.2.2.2.2.2.2.2.1 hP i hi2 hcl j hj (C.2.2.2.2.1 _ hw) (fun x hx => by rw [← hsame]; exact hx) (by simp [hj, hf]) hd (kk _ _ _ _ _ _ h hl hP hD hS)
  · exact h.elim
theorem s_getd (C : Cx p s m args meth c cc nL own ret g) {ix : Nat} {ref R : String} {T : u_T} {N : Nat} (k j : Nat) (hcl : vwCl[k]? = some (R, T, N)) (hin : ∀ w ∈ u_ws R T N, w ∈ TT) (hN : nf k = N) (hk7 : k < 7) (hj : j < N) (hw : Cond.fieldLink own ix ref (T j).2.1 (T j).2.2.1 ∈ TT) (hsame : (T j).1 = ref) (hs : sty k j = 2) (hd : decode cc pc = .ok (.getfield ix, 3)) (kk : Sj p l e d s m args below meth c nL g Qf (pc + 3) K) : Sj p l e d s m args below meth c nL g Qf pc (i_getd g k j K) := by
  intro lv st M H locs ls h hl hP hD hS
  unfold i_getd at h
  split at h
  · next q r =>
    obtain ⟨⟨o1, o2, o3⟩, h⟩ := h
    obtain ⟨i, hi1, hi2⟩ := wsM_in (g := g) M o1
    have hf : fv g M q j = rdv (M q j) := by simp only [fv, o2]; rw [if_neg (by omega), if_neg (by omega)]
    have he : eE g M q = .inr (k, (List.range N).map (fun j => ev g (fv g M q j))) := by simp only [eE, o2, hN]; rw [if_pos hk7]
    rw [he] at hi2
    skip
    exact va_get (v := ev g (rdv (M q j))) C.1 C.2.1 C.2.2.2.2.1 hin C.2.2.2.1 C.2.2.2.2.2.2.2.1 hP i hi2 hcl j hj (C.2.2.2.2.1 _ hw) (fun x hx => by rw [← hsame]; exact hx) (by simp [hj, hf]) hd (kk _ _ _ _ _ _ h hl hP hD hS)
  · exact h.elim
theorem s_puti (C : Cx p s m args meth c cc nL own ret g) {ix : Nat} {ref R : String} {T : u_T} {N : Nat} (k j : Nat) (hcl : vwCl[k]? = some (R, T, N)) (hin : ∀ w ∈ u_ws R T N, w ∈ TT) (hN : nf k = N) (hk7 : k < 7) (hj : j < N) (hw : Cond.fieldLink own ix ref (T j).2.1 (T j).2.2.1 ∈ TT) (hsame : (T j).1 = ref) (hs : sty k j = 0) (ty0 : Nat → FieldType) (hty : ∀ k, k < N → parseFieldDescriptor (T k).2.2.1 = some (ty0 k)) (hnm : ∀ a, a < N → ∀ b, b < N → a ≠ b → (T a).2.1 ≠ (T b).2.1) (hfin : (T j).2.2.2 = false) (hd2 : parseFieldDescriptor (T j).2.2.1 = some .int) (hd : decode cc pc = .ok (.putfield ix, 3)) (kk : Sj p l e d s m args below meth c nL g Qf (pc + 3) K) : Sj p l e d s m args below meth c nL g Qf pc (i_puti g k j K) := by
  intro lv st M H locs ls h hl hP hD hS
  unfold i_puti at h
  split at h
  · next x q r =>
    obtain ⟨⟨o1, o2, o3⟩, h⟩ := h
    obtain ⟨i, hi1, hi2⟩ := wsM_in (g := g) M o1
    have hf : fv g (mset M q j x) q j = .int x := by simp only [fv, o2]; rw [if_pos hs]; simp [mset]
    have he : eE g M q = .inr (k, (List.range N).map (fun j => ev g (fv g M q j))) := by simp only [eE, o2, hN]; rw [if_pos hk7]
    have he2 : eE g (mset M q j x) q = .inr (k, ((List.range N).map (fun j => ev g (fv g M q j))).set j (ev g (.int x))) := by
      simp only [eE, o2, hN]; rw [if_pos hk7]
      congr 2
      apply List.ext_getElem?
      intro b
      rw [List.getElem?_set]
      by_cases hb : j = b
      · subst hb; simp [hj, hf]
      · rw [if_neg hb]
        have hbj : ¬ b = j := fun e => hb e.symm
        by_cases hbN : b < N
        · simp [hbN, fv, mset, hbj]
        · simp [hbN]
    rw [he] at hi2
    have hset := fun z => wsM_set (M' := mset M q j x) (e' := .inr (k, ((List.range N).map (fun j => ev g (fv g M q j))).set j (ev g (.int x)))) hD hi1 he2 z
    have hset := hset (fun a ha => eE_ne ha)
    refine va_put (v := ev g (.int x)) C.1 C.2.1 C.2.2.2.2.1 hin ty0 hty hnm C.2.2.2.1 C.2.2.2.2.2.2.2.1 hP hD hS i hi2 hcl j hj (C.2.2.2.2.1 _ hw) (fun x hx => by rw [← hsame]; exact hx) hfin hd2 rfl rfl (by simp [hj]) hd (fun H1 locs1 hP1 hD1 hS1 => ?_)
    rw [hset] at hP1 hD1
    exact kk _ _ _ _ _ _ h hl hP1 hD1 hS1
  · exact h.elim
theorem s_putz (C : Cx p s m args meth c cc nL own ret g) {ix : Nat} {ref R : String} {T : u_T} {N : Nat} (k j : Nat) (hcl : vwCl[k]? = some (R, T, N)) (hin : ∀ w ∈ u_ws R T N, w ∈ TT) (hN : nf k = N) (hk7 : k < 7) (hj : j < N) (hw : Cond.fieldLink own ix ref (T j).2.1 (T j).2.2.1 ∈ TT) (hsame : (T j).1 = ref) (hs : sty k j = 0) (ty0 : Nat → FieldType) (hty : ∀ k, k < N → parseFieldDescriptor (T k).2.2.1 = some (ty0 k)) (hnm : ∀ a, a < N → ∀ b, b < N → a ≠ b → (T a).2.1 ≠ (T b).2.1) (hfin : (T j).2.2.2 = false) (hd2 : parseFieldDescriptor (T j).2.2.1 = some .boolean) (hd : decode cc pc = .ok (.putfield ix, 3)) (kk : Sj p l e d s m args below meth c nL g Qf (pc + 3) K) : Sj p l e d s m args below meth c nL g Qf pc (i_putz g k j K) := by
  intro lv st M H locs ls h hl hP hD hS
  unfold i_putz at h
  split at h
  · next x q r =>
    obtain ⟨⟨o1, o2, o3⟩, hx, h⟩ := h
    obtain ⟨i, hi1, hi2⟩ := wsM_in (g := g) M o1
    have hf : fv g (mset M q j x) q j = .int x := by simp only [fv, o2]; rw [if_pos hs]; simp [mset]
    have he : eE g M q = .inr (k, (List.range N).map (fun j => ev g (fv g M q j))) := by simp only [eE, o2, hN]; rw [if_pos hk7]
    have he2 : eE g (mset M q j x) q = .inr (k, ((List.range N).map (fun j => ev g (fv g M q j))).set j (ev g (.int x))) := by
      simp only [eE, o2, hN]; rw [if_pos hk7]
      congr 2
      apply List.ext_getElem?
      intro b
      rw [List.getElem?_set]
      by_cases hb : j = b
      · subst hb; simp [hj, hf]
      · rw [if_neg hb]
        have hbj : ¬ b = j := fun e => hb e.symm
        by_cases hbN : b < N
        · simp [hbN, fv, mset, hbj]
        · simp [hbN]
    rw [he] at hi2
    have hset := fun z => wsM_set (M' := mset M q j x) (e' := .inr (k, ((List.range N).map (fun j => ev g (fv g M q j))).set j (ev g (.int x)))) hD hi1 he2 z
    have hset := hset (fun a ha => eE_ne ha)
    refine va_put (v := ev g (.int x)) C.1 C.2.1 C.2.2.2.2.1 hin ty0 hty hnm C.2.2.2.1 C.2.2.2.2.2.2.2.1 hP hD hS i hi2 hcl j hj (C.2.2.2.2.1 _ hw) (fun x hx => by rw [← hsame]; exact hx) hfin hd2 (by rcases hx with rfl | rfl <;> rfl) (by rcases hx with rfl | rfl <;> rfl) (by simp [hj]) hd (fun H1 locs1 hP1 hD1 hS1 => ?_)
    rw [hset] at hP1 hD1
    exact kk _ _ _ _ _ _ h hl hP1 hD1 hS1
  · exact h.elim
theorem s_putd (C : Cx p s m args meth c cc nL own ret g) {ix : Nat} {ref R : String} {T : u_T} {N : Nat} (k j : Nat) (hcl : vwCl[k]? = some (R, T, N)) (hin : ∀ w ∈ u_ws R T N, w ∈ TT) (hN : nf k = N) (hk7 : k < 7) (hj : j < N) (hw : Cond.fieldLink own ix ref (T j).2.1 (T j).2.2.1 ∈ TT) (hsame : (T j).1 = ref) (hs : sty k j = 2) (ty0 : Nat → FieldType) (hty : ∀ k, k < N → parseFieldDescriptor (T k).2.2.1 = some (ty0 k)) (hnm : ∀ a, a < N → ∀ b, b < N → a ≠ b → (T a).2.1 ≠ (T b).2.1) (hfin : (T j).2.2.2 = false) {cn : String} (hd2 : parseFieldDescriptor (T j).2.2.1 = some (.object cn)) (hd : decode cc pc = .ok (.putfield ix, 3)) (kk : Sj p l e d s m args below meth c nL g Qf (pc + 3) K) : Sj p l e d s m args below meth c nL g Qf pc (i_putd g k j K) := by
  intro lv st M H locs ls h hl hP hD hS
  unfold i_putd at h
  split at h
  · next y q r =>
    obtain ⟨⟨o1, o2, o3⟩, hy, h⟩ := h
    obtain ⟨i, hi1, hi2⟩ := wsM_in (g := g) M o1
    have hf : fv g (mset M q j (nI y)) q j = .ref y := by have hz : mset M q j (nI y) q j = nI y := (by simp [mset]); simp only [fv, o2]; rw [if_neg (by omega), if_neg (by omega), hz, rdv, if_neg (nI_pos (Nat.lt_trans (m := 1000) hy (by decide))), nI_clamp (Nat.lt_trans (m := 1000) hy (by decide))]
    have he : eE g M q = .inr (k, (List.range N).map (fun j => ev g (fv g M q j))) := by simp only [eE, o2, hN]; rw [if_pos hk7]
    have he2 : eE g (mset M q j (nI y)) q = .inr (k, ((List.range N).map (fun j => ev g (fv g M q j))).set j (ev g (.ref y))) := by
      simp only [eE, o2, hN]; rw [if_pos hk7]
      congr 2
      apply List.ext_getElem?
      intro b
      rw [List.getElem?_set]
      by_cases hb : j = b
      · subst hb; simp [hj, hf]
      · rw [if_neg hb]
        have hbj : ¬ b = j := fun e => hb e.symm
        by_cases hbN : b < N
        · simp [hbN, fv, mset, hbj]
        · simp [hbN]
    rw [he] at hi2
    have hset := fun z => wsM_set (M' := mset M q j (nI y)) (e' := .inr (k, ((List.range N).map (fun j => ev g (fv g M q j))).set j (ev g (.ref y)))) hD hi1 he2 z
    have hset := hset (fun a ha => eE_ne ha)
    refine va_put (v := ev g (.ref y)) C.1 C.2.1 C.2.2.2.2.1 hin ty0 hty hnm C.2.2.2.1 C.2.2.2.2.2.2.2.1 hP hD hS i hi2 hcl j hj (C.2.2.2.2.1 _ hw) (fun x hx => by rw [← hsame]; exact hx) hfin hd2 rfl rfl (by simp [hj]) hd (fun H1 locs1 hP1 hD1 hS1 => ?_)
    rw [hset] at hP1 hD1
    exact kk _ _ _ _ _ _ h hl hP1 hD1 hS1
  · exact h.elim
theorem s_getiN (C : Cx p s m args meth c cc nL own ret g) {ix : Nat} {ref R : String} {host : String} {T : u_T} {N : Nat} (k j : Nat) (hcl : vwCl[k]? = some (R, T, N)) (hin : ∀ w ∈ u_ws R T N, w ∈ TT) (hN : nf k = N) (hk7 : k < 7) (hj : j < N) (hw : Cond.fieldLinkNest own ix ref (T j).2.1 (T j).2.2.1 host ∈ NW) (hsame : (T j).1 = ref) (hs : sty k j = 0) (hd : decode cc pc = .ok (.getfield ix, 3)) (kk : Sj p l e d s m args below meth c nL g Qf (pc + 3) K) : Sj p l e d s m args below meth c nL g Qf pc (i_geti g k j K) := by
  intro lv st M H locs ls h hl hP hD hS
  unfold i_geti at h
  split at h
  · next q r =>
    obtain ⟨⟨o1, o2, o3⟩, h⟩ := h
    obtain ⟨i, hi1, hi2⟩ := wsM_in (g := g) M o1
    have hf : fv g M q j = .int (M q j) := by simp only [fv, o2]; rw [if_pos hs]
    have he : eE g M q = .inr (k, (List.range N).map (fun j => ev g (fv g M q j))) := by simp only [eE, o2, hN]; rw [if_pos hk7]
    rw [he] at hi2
    have h := h _ rfl
    exact va_getN (v := ev g (.int (M q j))) C.1 C.2.1 C.2.2.2.2.1 hin C.2.2.2.1 C.2.2.2.2.2.2.2.1 hP i hi2 hcl j hj (va_Nw.use rfl (C.2.2.2.2.2.2.2.2.2.2.2.2.2.2 _ hw)) (fun x hx => by rw [← hsame]; exact hx) (by simp [hj, hf]) hd (kk _ _ _ _ _ _ h hl hP hD hS)
  · exact h.elim
theorem s_getrN (C : Cx p s m args meth c cc nL own ret g) {ix : Nat} {ref R : String} {host : String} {T : u_T} {N : Nat} (k j : Nat) (hcl : vwCl[k]? = some (R, T, N)) (hin : ∀ w ∈ u_ws R T N, w ∈ TT) (hN : nf k = N) (hk7 : k < 7) (hj : j < N) (hw : Cond.fieldLinkNest own ix ref (T j).2.1 (T j).2.2.1 host ∈ NW) (hsame : (T j).1 = ref) (hs : sty k j = 1) (hd : decode cc pc = .ok (.getfield ix, 3)) (kk : Sj p l e d s m args below meth c nL g Qf (pc + 3) K) : Sj p l e d s m args below meth c nL g Qf pc (i_getr g k j K) := by
  intro lv st M H locs ls h hl hP hD hS
  unfold i_getr at h
  split at h
  · next q r =>
    obtain ⟨⟨o1, o2, o3⟩, h⟩ := h
    obtain ⟨i, hi1, hi2⟩ := wsM_in (g := g) M o1
    have hf : fv g M q j = .ref (q + rfo k j) := by simp only [fv, o2]; rw [if_neg (by omega), if_pos ⟨hs, o3⟩]
    have he : eE g M q = .inr (k, (List.range N).map (fun j => ev g (fv g M q j))) := by simp only [eE, o2, hN]; rw [if_pos hk7]
    rw [he] at hi2
    skip
    exact va_getN (v := ev g (.ref (q + rfo k j))) C.1 C.2.1 C.2.2.2.2.1 hin C.2.2.2.1 C.2.2.2.2.2.2.2.1 hP i hi2 hcl j hj (va_Nw.use rfl (C.2.2.2.2.2.2.2.2.2.2.2.2.2.2 _ hw)) (fun x hx => by rw [← hsame]; exact hx) (by simp [hj, hf]) hd (kk _ _ _ _ _ _ h hl hP hD hS)
  · exact h.elim
theorem s_getdN (C : Cx p s m args meth c cc nL own ret g) {ix : Nat} {ref R : String} {host : String} {T : u_T} {N : Nat} (k j : Nat) (hcl : vwCl[k]? = some (R, T, N)) (hin : ∀ w ∈ u_ws R T N, w ∈ TT) (hN : nf k = N) (hk7 : k < 7) (hj : j < N) (hw : Cond.fieldLinkNest own ix ref (T j).2.1 (T j).2.2.1 host ∈ NW) (hsame : (T j).1 = ref) (hs : sty k j = 2) (hd : decode cc pc = .ok (.getfield ix, 3)) (kk : Sj p l e d s m args below meth c nL g Qf (pc + 3) K) : Sj p l e d s m args below meth c nL g Qf pc (i_getd g k j K) := by
  intro lv st M H locs ls h hl hP hD hS
  unfold i_getd at h
  split at h
  · next q r =>
    obtain ⟨⟨o1, o2, o3⟩, h⟩ := h
    obtain ⟨i, hi1, hi2⟩ := wsM_in (g := g) M o1
    have hf : fv g M q j = rdv (M q j) := by simp only [fv, o2]; rw [if_neg (by omega), if_neg (by omega)]
    have he : eE g M q = .inr (k, (List.range N).map (fun j => ev g (fv g M q j))) := by simp only [eE, o2, hN]; rw [if_pos hk7]
    rw [he] at hi2
    skip
    exact va_getN (v := ev g (rdv (M q j))) C.1 C.2.1 C.2.2.2.2.1 hin C.2.2.2.1 C.2.2.2.2.2.2.2.1 hP i hi2 hcl j hj (va_Nw.use rfl (C.2.2.2.2.2.2.2.2.2.2.2.2.2.2 _ hw)) (fun x hx => by rw [← hsame]; exact hx) (by simp [hj, hf]) hd (kk _ _ _ _ _ _ h hl hP hD hS)
  · exact h.elim
theorem s_putiN (C : Cx p s m args meth c cc nL own ret g) {ix : Nat} {ref R : String} {host : String} {T : u_T} {N : Nat} (k j : Nat) (hcl : vwCl[k]? = some (R, T, N)) (hin : ∀ w ∈ u_ws R T N, w ∈ TT) (hN : nf k = N) (hk7 : k < 7) (hj : j < N) (hw : Cond.fieldLinkNest own ix ref (T j).2.1 (T j).2.2.1 host ∈ NW) (hsame : (T j).1 = ref) (hs : sty k j = 0) (ty0 : Nat → FieldType) (hty : ∀ k, k < N → parseFieldDescriptor (T k).2.2.1 = some (ty0 k)) (hnm : ∀ a, a < N → ∀ b, b < N → a ≠ b → (T a).2.1 ≠ (T b).2.1) (hfin : (T j).2.2.2 = false) (hd2 : parseFieldDescriptor (T j).2.2.1 = some .int) (hd : decode cc pc = .ok (.putfield ix, 3)) (kk : Sj p l e d s m args below meth c nL g Qf (pc + 3) K) : Sj p l e d s m args below meth c nL g Qf pc (i_puti g k j K) := by
  intro lv st M H locs ls h hl hP hD hS
  unfold i_puti at h
  split at h
  · next x q r =>
    obtain ⟨⟨o1, o2, o3⟩, h⟩ := h
    obtain ⟨i, hi1, hi2⟩ := wsM_in (g := g) M o1
    have hf : fv g (mset M q j x) q j = .int x := by simp only [fv, o2]; rw [if_pos hs]; simp [mset]
    have he : eE g M q = .inr (k, (List.range N).map (fun j => ev g (fv g M q j))) := by simp only [eE, o2, hN]; rw [if_pos hk7]
    have he2 : eE g (mset M q j x) q = .inr (k, ((List.range N).map (fun j => ev g (fv g M q j))).set j (ev g (.int x))) := by
      simp only [eE, o2, hN]; rw [if_pos hk7]
      congr 2
      apply List.ext_getElem?
      intro b
      rw [List.getElem?_set]
      by_cases hb : j = b
      · subst hb; simp [hj, hf]
      · rw [if_neg hb]
        have hbj : ¬ b = j := fun e => hb e.symm
        by_cases hbN : b < N
        · simp [hbN, fv, mset, hbj]
        · simp [hbN]
    rw [he] at hi2
    have hset := fun z => wsM_set (M' := mset M q j x) (e' := .inr (k, ((List.range N).map (fun j => ev g (fv g M q j))).set j (ev g (.int x)))) hD hi1 he2 z
    have hset := hset (fun a ha => eE_ne ha)
    refine va_putN (v := ev g (.int x)) C.1 C.2.1 C.2.2.2.2.1 hin ty0 hty hnm C.2.2.2.1 C.2.2.2.2.2.2.2.1 hP hD hS i hi2 hcl j hj (va_Nw.use rfl (C.2.2.2.2.2.2.2.2.2.2.2.2.2.2 _ hw)) (fun x hx => by rw [← hsame]; exact hx) hfin hd2 rfl rfl (by simp [hj]) hd (fun H1 locs1 hP1 hD1 hS1 => ?_)
    rw [hset] at hP1 hD1
    exact kk _ _ _ _ _ _ h hl hP1 hD1 hS1
  · exact h.elim
theorem s_putzN (C : Cx p s m args meth c cc nL own ret g) {ix : Nat} {ref R : String} {host : String} {T : u_T} {N : Nat} (k j : Nat) (hcl : vwCl[k]? = some (R, T, N)) (hin : ∀ w ∈ u_ws R T N, w ∈ TT) (hN : nf k = N) (hk7 : k < 7) (hj : j < N) (hw : Cond.fieldLinkNest own ix ref (T j).2.1 (T j).2.2.1 host ∈ NW) (hsame : (T j).1 = ref) (hs : sty k j = 0) (ty0 : Nat → FieldType) (hty : ∀ k, k < N → parseFieldDescriptor (T k).2.2.1 = some (ty0 k)) (hnm : ∀ a, a < N → ∀ b, b < N → a ≠ b → (T a).2.1 ≠ (T b).2.1) (hfin : (T j).2.2.2 = false) (hd2 : parseFieldDescriptor (T j).2.2.1 = some .boolean) (hd : decode cc pc = .ok (.putfield ix, 3)) (kk : Sj p l e d s m args below meth c nL g Qf (pc + 3) K) : Sj p l e d s m args below meth c nL g Qf pc (i_putz g k j K) := by
  intro lv st M H locs ls h hl hP hD hS
  unfold i_putz at h
  split at h
  · next x q r =>
    obtain ⟨⟨o1, o2, o3⟩, hx, h⟩ := h
    obtain ⟨i, hi1, hi2⟩ := wsM_in (g := g) M o1
    have hf : fv g (mset M q j x) q j = .int x := by simp only [fv, o2]; rw [if_pos hs]; simp [mset]
    have he : eE g M q = .inr (k, (List.range N).map (fun j => ev g (fv g M q j))) := by simp only [eE, o2, hN]; rw [if_pos hk7]
    have he2 : eE g (mset M q j x) q = .inr (k, ((List.range N).map (fun j => ev g (fv g M q j))).set j (ev g (.int x))) := by
      simp only [eE, o2, hN]; rw [if_pos hk7]
      congr 2
      apply List.ext_getElem?
      intro b
      rw [List.getElem?_set]
      by_cases hb : j = b
      · subst hb; simp [hj, hf]
      · rw [if_neg hb]
        have hbj : ¬ b = j := fun e => hb e.symm
        by_cases hbN : b < N
        · simp [hbN, fv, mset, hbj]
        · simp [hbN]
    rw [he] at hi2
    have hset := fun z => wsM_set (M' := mset M q j x) (e' := .inr (k, ((List.range N).map (fun j => ev g (fv g M q j))).set j (ev g (.int x)))) hD hi1 he2 z
    have hset := hset (fun a ha => eE_ne ha)
    refine va_putN (v := ev g (.int x)) C.1 C.2.1 C.2.2.2.2.1 hin ty0 hty hnm C.2.2.2.1 C.2.2.2.2.2.2.2.1 hP hD hS i hi2 hcl j hj (va_Nw.use rfl (C.2.2.2.2.2.2.2.2.2.2.2.2.2.2 _ hw)) (fun x hx => by rw [← hsame]; exact hx) hfin hd2 (by rcases hx with rfl | rfl <;> rfl) (by rcases hx with rfl | rfl <;> rfl) (by simp [hj]) hd (fun H1 locs1 hP1 hD1 hS1 => ?_)
    rw [hset] at hP1 hD1
    exact kk _ _ _ _ _ _ h hl hP1 hD1 hS1
  · exact h.elim
theorem s_putdN (C : Cx p s m args meth c cc nL own ret g) {ix : Nat} {ref R : String} {host : String} {T : u_T} {N : Nat} (k j : Nat) (hcl : vwCl[k]? = some (R, T, N)) (hin : ∀ w ∈ u_ws R T N, w ∈ TT) (hN : nf k = N) (hk7 : k < 7) (hj : j < N) (hw : Cond.fieldLinkNest own ix ref (T j).2.1 (T j).2.2.1 host ∈ NW) (hsame : (T j).1 = ref) (hs : sty k j = 2) (ty0 : Nat → FieldType) (hty : ∀ k, k < N → parseFieldDescriptor (T k).2.2.1 = some (ty0 k)) (hnm : ∀ a, a < N → ∀ b, b < N → a ≠ b → (T a).2.1 ≠ (T b).2.1) (hfin : (T j).2.2.2 = false) {cn : String} (hd2 : parseFieldDescriptor (T j).2.2.1 = some (.object cn)) (hd : decode cc pc = .ok (.putfield ix, 3)) (kk : Sj p l e d s m args below meth c nL g Qf (pc + 3) K) : Sj p l e d s m args below meth c nL g Qf pc (i_putd g k j K) := by
  intro lv st M H locs ls h hl hP hD hS
  unfold i_putd at h
  split at h
  · next y q r =>
    obtain ⟨⟨o1, o2, o3⟩, hy, h⟩ := h
    obtain ⟨i, hi1, hi2⟩ := wsM_in (g := g) M o1
    have hf : fv g (mset M q j (nI y)) q j = .ref y := by have hz : mset M q j (nI y) q j = nI y := (by simp [mset]); simp only [fv, o2]; rw [if_neg (by omega), if_neg (by omega), hz, rdv, if_neg (nI_pos (Nat.lt_trans (m := 1000) hy (by decide))), nI_clamp (Nat.lt_trans (m := 1000) hy (by decide))]
    have he : eE g M q = .inr (k, (List.range N).map (fun j => ev g (fv g M q j))) := by simp only [eE, o2, hN]; rw [if_pos hk7]
    have he2 : eE g (mset M q j (nI y)) q = .inr (k, ((List.range N).map (fun j => ev g (fv g M q j))).set j (ev g (.ref y))) := by
      simp only [eE, o2, hN]; rw [if_pos hk7]
      congr 2
      apply List.ext_getElem?
      intro b
      rw [List.getElem?_set]
      by_cases hb : j = b
      · subst hb; simp [hj, hf]
      · rw [if_neg hb]
        have hbj : ¬ b = j := fun e => hb e.symm
        by_cases hbN : b < N
        · simp [hbN, fv, mset, hbj]
        · simp [hbN]
    rw [he] at hi2
    have hset := fun z => wsM_set (M' := mset M q j (nI y)) (e' := .inr (k, ((List.range N).map (fun j => ev g (fv g M q j))).set j (ev g (.ref y)))) hD hi1 he2 z
    have hset := hset (fun a ha => eE_ne ha)
    refine va_putN (v := ev g (.ref y)) C.1 C.2.1 C.2.2.2.2.1 hin ty0 hty hnm C.2.2.2.1 C.2.2.2.2.2.2.2.1 hP hD hS i hi2 hcl j hj (va_Nw.use rfl (C.2.2.2.2.2.2.2.2.2.2.2.2.2.2 _ hw)) (fun x hx => by rw [← hsame]; exact hx) hfin hd2 rfl rfl (by simp [hj]) hd (fun H1 locs1 hP1 hD1 hS1 => ?_)
    rw [hset] at hP1 hD1
    exact kk _ _ _ _ _ _ h hl hP1 hD1 hS1
  · exact h.elim
theorem s_iald (C : Cx p s m args meth c cc nL own ret g) (hd : decode cc pc = .ok (.iaload, 1)) (kk : Sj p l e d s m args below meth c nL g Qf (pc + 1) K) : Sj p l e d s m args below meth c nL g Qf pc (i_iald g K) := by
  intro lv st M H locs ls h hl hP hD hS
  unfold i_iald at h
  split at h
  · next i q r =>
    obtain ⟨⟨o1, o2, o3⟩, hin, h⟩ := h
    obtain ⟨j, hj1, hj2⟩ := wsM_in (g := g) M o1
    have he : eE g M q = .inl (gC g 0, ln q, .inl (M q)) := by simp [eE, o2]
    rw [he] at hj2
    exact va_iald C.1 C.2.1 C.2.2.2.2.2.2.2.1 hP j 0 hj2 rfl hin hd (kk _ _ _ _ _ _ (h _ rfl) hl hP hD hS)
  · exact h.elim
theorem s_bald (C : Cx p s m args meth c cc nL own ret g) (hd : decode cc pc = .ok (.baload, 1)) (kk : Sj p l e d s m args below meth c nL g Qf (pc + 1) K) : Sj p l e d s m args below meth c nL g Qf pc (i_bald g K) := by
  intro lv st M H locs ls h hl hP hD hS
  unfold i_bald at h
  split at h
  · next i q r =>
    obtain ⟨⟨o1, o2, o3⟩, hin, h⟩ := h
    obtain ⟨j, hj1, hj2⟩ := wsM_in (g := g) M o1
    have he : eE g M q = .inl (gC g 1, ln q, .inl (M q)) := by simp [eE, o2]
    rw [he] at hj2
    exact va_zald C.1 C.2.1 C.2.2.2.2.2.2.2.1 hP j 1 hj2 rfl hin hd (kk _ _ _ _ _ _ (h _ rfl) hl hP hD hS)
  · exact h.elim
theorem s_aald (C : Cx p s m args meth c cc nL own ret g) (k : Nat) (hk : k = 9 ∨ k = 10 ∨ k = 11) (hd : decode cc pc = .ok (.aaload, 1)) (kk : Sj p l e d s m args below meth c nL g Qf (pc + 1) K) : Sj p l e d s m args below meth c nL g Qf pc (i_aald g k K) := by
  intro lv st M H locs ls h hl hP hD hS
  unfold i_aald at h
  split at h
  · next i q r =>
    obtain ⟨⟨o1, o2, o3⟩, hin, h⟩ := h
    obtain ⟨j, hj1, hj2⟩ := wsM_in (g := g) M o1
    have he : eE g M q = .inl (gC g (k - 7), ln q, .inr (.inr (.inr (.inr (era g M q))))) := by
      simp only [eE, o2]; rw [if_neg (by omega), if_neg (by omega), if_neg (by omega)]
    rw [he] at hj2
    have hr : va_rf (era g M q i.toNatClampNeg) = ev g (.ref (q + aof k i.toNatClampNeg)) := by simp [era, o3, o2, va_rf, ev]
    have kk' := kk _ _ _ _ _ _ h hl hP hD hS
    rw [List.map_cons, ← hr] at kk'
    rcases hk with rfl | rfl | rfl
    · exact va_aldq C.1 C.2.1 C.2.2.2.2.2.2.2.1 hP j 2 hj2 rfl hin hd kk'
    · exact va_aldq C.1 C.2.1 C.2.2.2.2.2.2.2.1 hP j 3 hj2 rfl hin hd kk'
    · exact va_aldq C.1 C.2.1 C.2.2.2.2.2.2.2.1 hP j 4 hj2 rfl hin hd kk'
  · exact h.elim
theorem s_iast (C : Cx p s m args meth c cc nL own ret g) (hd : decode cc pc = .ok (.iastore, 1)) (kk : Sj p l e d s m args below meth c nL g Qf (pc + 1) K) : Sj p l e d s m args below meth c nL g Qf pc (i_iast g K) := by
  intro lv st M H locs ls h hl hP hD hS
  unfold i_iast at h
  split at h
  · next x i q r =>
    obtain ⟨⟨o1, o2, o3⟩, hin, h⟩ := h
    obtain ⟨j, hj1, hj2⟩ := wsM_in (g := g) M o1
    have he : eE g M q = .inl (gC g 0, ln q, .inl (M q)) := by simp [eE, o2]
    have he2 : eE g (mset M q i.toNatClampNeg x) q = .inl (gC g 0, ln q, .inl (upd (M q) i.toNatClampNeg x)) := by simp [eE, o2, mset_self]
    rw [he] at hj2
    have hset := wsM_set hD hj1 he2 (fun a ha => eE_ne ha)
    refine va_iast C.1 C.2.1 C.2.2.2.2.2.2.2.1 hP hD hS j 0 hj2 rfl hin hd (fun H1 locs1 hP1 hD1 hS1 => ?_)
    rw [hset] at hP1 hD1
    exact kk _ _ _ _ _ _ h hl hP1 hD1 hS1
  · exact h.elim
theorem s_bast (C : Cx p s m args meth c cc nL own ret g) (hd : decode cc pc = .ok (.bastore, 1)) (kk : Sj p l e d s m args below meth c nL g Qf (pc + 1) K) : Sj p l e d s m args below meth c nL g Qf pc (i_bast g K) := by
  intro lv st M H locs ls h hl hP hD hS
  unfold i_bast at h
  split at h
  · next x i q r =>
    obtain ⟨⟨o1, o2, o3⟩, hx, hin, h⟩ := h
    obtain ⟨j, hj1, hj2⟩ := wsM_in (g := g) M o1
    have he : eE g M q = .inl (gC g 1, ln q, .inl (M q)) := by simp [eE, o2]
    have he2 : eE g (mset M q i.toNatClampNeg x) q = .inl (gC g 1, ln q, .inl (upd (M q) i.toNatClampNeg x)) := by simp [eE, o2, mset_self]
    rw [he] at hj2
    have hset := wsM_set hD hj1 he2 (fun a ha => eE_ne ha)
    refine va_zast C.1 C.2.1 C.2.2.2.2.2.2.2.1 hP hD hS j 1 hj2 rfl hin hd (fun H1 locs1 hP1 hD1 hS1 => ?_)
    have hn : vp_nar .boolean x = x := by rcases hx with rfl | rfl <;> rfl
    rw [hn] at hP1 hD1
    rw [hset] at hP1 hD1
    exact kk _ _ _ _ _ _ h hl hP1 hD1 hS1
  · exact h.elim
theorem s_alen (C : Cx p s m args meth c cc nL own ret g) (hd : decode cc pc = .ok (.arraylength, 1)) (kk : Sj p l e d s m args below meth c nL g Qf (pc + 1) K) : Sj p l e d s m args below meth c nL g Qf pc (i_alen g K) := by
  intro lv st M H locs ls h hl hP hD hS
  unfold i_alen at h
  split at h
  · next q r =>
    obtain ⟨⟨o1, o2, o3⟩, h⟩ := h
    obtain ⟨j, hj1, hj2⟩ := wsM_in (g := g) M o1
    have he : eE g M q = .inl (gC g 0, ln q, .inl (M q)) := by simp [eE, o2]
    rw [he] at hj2
    exact va_alen C.1 C.2.1 C.2.2.2.2.2.2.2.1 hP j 0 hj2 rfl rfl hd (kk _ _ _ _ _ _ h hl hP hD hS)
  · exact h.elim
/-! ends -/
theorem s_ret (C : Cx p s m args meth c cc nL own (some .int) g) {Q : Option Value → MM → Prop} (hd : decode cc pc = .ok (.ireturn, 1)) : Sj p l e d s m args below meth c nL g (MQ below (cQc g Q) args s 0 0 (gA g)) pc (i_ret Q) := by
  intro lv st M H locs ls h hl hP hD hS
  unfold i_ret at h
  split at h
  · next v => exact W.iret C.1 C.2.1 C.2.2.2.2.2.1 (fun t ht hW => ⟨some (.int v), M, rfl, h, by rw [ht]; exact hP, hS.F ht⟩) hS.2.2 hd C.2.2.2.2.2.2.1
  · exact h.elim
theorem s_retz (C : Cx p s m args meth c cc nL own (some .boolean) g) {Q : Option Value → MM → Prop} (hd : decode cc pc = .ok (.ireturn, 1)) : Sj p l e d s m args below meth c nL g (MQ below (cQc g Q) args s 0 0 (gA g)) pc (i_retz Q) := by
  intro lv st M H locs ls h hl hP hD hS
  unfold i_retz at h
  split at h
  · next v => exact W.zret C.1 C.2.1 C.2.2.2.2.2.1 (by rcases h.1 with rfl | rfl <;> rfl) (fun t ht hW => ⟨some (.int v), M, rfl, h.2, by rw [ht]; exact hP, hS.F ht⟩) hS.2.2 hd C.2.2.2.2.2.2.1
  · exact h.elim
theorem s_reta {cn : String} (C : Cx p s m args meth c cc nL own (some (.object cn)) g) {Q : Option Value → MM → Prop} (hd : decode cc pc = .ok (.areturn, 1)) : Sj p l e d s m args below meth c nL g (MQ below (cQc g Q) args s 0 0 (gA g)) pc (i_reta Q) := by
  intro lv st M H locs ls h hl hP hD hS
  unfold i_reta at h
  split at h
  · next v => exact W.aret C.1 C.2.1 C.2.2.2.2.2.1 (Or.inl ⟨_, rfl⟩) (Or.inr ⟨_, rfl⟩) (fun t ht hW => ⟨some (.ref v), M, rfl, h, by rw [ht]; exact hP, hS.F ht⟩) hS.2.2 hd C.2.2.2.2.2.2.1
  · exact h.elim
theorem s_retl (C : Cx p s m args meth c cc nL own (some .long) g) {Q : Option Value → MM → Prop} (hd : decode cc pc = .ok (.lreturn, 1)) : Sj p l e d s m args below meth c nL g (MQ below (cQc g Q) args s 0 0 (gA g)) pc (i_retl Q) := by
  intro lv st M H locs ls h hl hP hD hS
  unfold i_retl at h
  split at h
  · next v => exact W.lret C.1 C.2.1 C.2.2.2.2.2.1 (fun t ht hW => ⟨some (.long v), M, rfl, h, by rw [ht]; exact hP, hS.F ht⟩) hS.2.2 hd C.2.2.2.2.2.2.1
  · exact h.elim
theorem s_retv (C : Cx p s m args meth c cc nL own none g) {Q : Option Value → MM → Prop} (hd : decode cc pc = .ok (.return_, 1)) : Sj p l e d s m args below meth c nL g (MQ below (cQc g Q) args s 0 0 (gA g)) pc (i_retv Q) := by
  intro lv st M H locs ls h hl hP hD hS
  unfold i_retv at h
  split at h
  · exact W.vret C.1 C.2.1 C.2.2.2.2.2.1 (fun t ht hW => ⟨none, M, rfl, h, by rw [ht]; exact hP, hS.F ht⟩) hS.2.2 hd C.2.2.2.2.2.2.1
  · exact h.elim
/-! calls -/
theorem cPc_blind (g : WG) (as : List Value) (M : MM) : FrameBlind (cPc g as M) := fun a U f mk q => ⟨q.1, q.2.1, q.2.2.1, va_K.moved (u := U) (U := U.calling f mk a) (Vm.Alike.refl U.vm) q.2.2.2.1, Ext.blind f mk a q.2.2.2.2⟩
theorem run_go {st0 rest : List Value} {a : Array Value} {H : Heap} {locs : List Loc} {ls : Array Slot} {Q : Option Value → MM → Prop} (hr : va_Run p l e (rmD d) s m args below meth c H locs 0 0 0 0 (F0 m pc ls st0) rest (cQc g Q a) (gA g)) (hS : va_S (gA g) s.heap H locs)
    (kk : ∀ (r : Option Value) (M' : MM) (H1 : Heap) (locs1 : List Loc), Q r M' → va_P (gD g) vwCl (wsM g M') H1 → va_S (gA g) s.heap H1 locs1 → W p l e (rmD d) s m args below meth c H1 locs1 0 0 Qf (F0 m (pc + 3) ls ((r.map (ev g)).toList ++ rest))) : W p l e (rmD d) s m args below meth c H locs 0 0 Qf (F0 m pc ls st0) := by
  intro T hT X
  obtain ⟨v, st₀, t, T', L, h0, X', hL, e1, e2, ⟨r, M', hv, hq, hp, hz, hk⟩, st⟩ := hr T hT X
  cases hv
  rw [h0] at hz hk
  obtain ⟨t2, a1, b1⟩ := kk r M' T'.heap (locs ++ L) hq (by rw [e1]; exact hp)
    ⟨Nat.le_trans hS.1 (by rw [e1]; exact hz), fun q h1 h2 => by rw [e1, hk q (Nat.lt_of_lt_of_le h1 hS.1) h2]; exact hS.2.1 q h1 h2, fun q hq => by
      rcases List.mem_append.mp hq with h | h
      · exact hS.2.2 q h
      · exact hL q h⟩ T' rfl X'
  exact ⟨t2, st t2 a1, b1⟩
/-- what a call site shows of its callee -/
def Cs (y : MethodName) (cc : ByteArray) (nL : Nat) (ret : Option FieldType) (n d' d : Nat) : Prop :=
  Cond.code y cc nL ret ∈ TT ∧ Cond.initialized y.cls ∈ TT ∧ (y.cls ≠ "java/lang/invoke/MethodHandle" ∧ y.cls ≠ "java/lang/invoke/VarHandle" ∧ (parseMethodDescriptor y.desc).map (fun d => d.parameters.length) = some n) ∧ d' + 1 ≤ d ∧ nL ≤ 21
theorem cs_room {nL' d' : Nat} (h : d' + 1 ≤ d) (h2 : nL' ≤ 21) : (rmD d').frames + 1 ≤ (rmD d).frames ∧ 8 + (nL' + 11) + (rmD d').locals ≤ (rmD d).locals := ⟨h, by show 8 + (nL' + 11) + 40 * d' ≤ 40 * d; omega⟩
theorem cs_pay {y : MethodName} {cc' : ByteArray} {nL' : Nat} {ret' : Option FieldType} (h : Cond.code y cc' nL' ret' ∈ TT) : GoodIn TT (.code y cc' nL' ret' :: TT) := TT_pay fun w hw => by
  rcases List.mem_cons.mp hw with hw | hw
  · rw [hw]; exact h
  · exact hw
theorem st_split {g : WG} {st : List Value} {n : Nat} {b : Value} {r : List Value} (h : st.drop n = b :: r) : st.map (ev g) = (((st.take n).reverse).map (ev g)).reverse ++ ev g b :: r.map (ev g) := by
  rw [List.map_reverse, List.reverse_reverse, ← List.map_cons, ← h, ← List.map_append, List.take_append_drop]
theorem take_len {st : List Value} {n : Nat} {b : Value} {r : List Value} (h : st.drop n = b :: r) : (((st.take n).reverse).map (ev g)).length = n := by
  have h1 : (st.drop n).length = r.length + 1 := by rw [h]; rfl
  rw [List.length_drop] at h1
  simp; omega
theorem csum_ev (g : WG) (r : List Value) : ((r.map (ev g)).map fun v => v.category).sum = csum r := by
  induction r with
  | nil => rfl
  | cons a t ih => simp only [List.map_cons, List.sum_cons, ev_cat, csum] at ih ⊢; omega
theorem opt_list (g : WG) (v : Option Value) (r : List Value) : (v.map (ev g)).toList ++ r.map (ev g) = (v.toList ++ r).map (ev g) := by cases v <;> simp
section VIRT
variable {ix n k : Nat} {y : MethodName} {cc' : ByteArray} {nL' d' : Nat} {ret' : Option FieldType} {T : PT} {RR : String} {T0 : u_T} {N : Nat}
theorem callv_any (C : Cx p s m args meth c cc nL own ret g) (hcl : vwCl[k]? = some (RR, T0, N)) (hk7 : k < 7) (hM : Ct l g y cc' nL' ret' d' T) (kk : Sj p l e d s m args below meth c nL g Qf (pc + 3) K)
    (run : ∀ {Pc : Array Value → State → Prop} {Qc : Array Value → State → Outcome → State → Prop} {H : Heap} {locs : List Loc} {b : Nat} {As rest : List Value} {gg : JFrame}, Met l y (.code y cc' nL' ret' :: TT) (rmD d') Pc Qc 0 0 (gA g) → PreV s H RR b Pc As → gg.method = m → As.length = n → gg.locals.size = nL → gg.stack = As.reverse ++ .ref b :: rest → 2 * gg.monitorRoom + (rest.map fun v => v.category).sum ≤ 8 → gg.pc = pc → va_Run p l e (rmD d) s m args below meth c H locs 0 0 0 0 gg rest (Qc (Value.ref b :: As).toArray) (gA g)) :
    Sj p l e d s m args below meth c nL g Qf pc (i_callv g k n T K) := by
  intro lv st M H locs ls h hl hP hD hS
  unfold i_callv at h
  split at h
  · next q r hst =>
    obtain ⟨o1, o2, hc, hT⟩ := h
    obtain ⟨j, hj1, hj2⟩ := wsM_in (g := g) M o1
    have he : eE g M q = .inr (k, (List.range (nf k)).map (fun j => ev g (fv g M q j))) := by simp only [eE, o2]; rw [if_pos hk7]
    rw [he] at hj2
    have hr := run (gg := F0 m pc ls (st.map (ev g))) (H := H) (locs := locs) (b := gad g q) (As := ((st.take n).reverse).map (ev g)) (rest := r.map (ev g)) (hM _ _ _ hT)
      ⟨cPc_blind g _ M, va_recv C.2.2.2.2.2.2.2.1 hP hcl hj2, fun U hU hW => ⟨rfl, by rw [hU]; exact hP, hD, va_K.moved hW.alike C.2.2.2.2.2.2.2.1, C.2.2.2.2.2.2.2.2.go (locs := locs) (by rw [hU]; exact hS) hW⟩⟩
      rfl (take_len hst) hl.1 (st_split hst) (lv_room (by rw [csum_ev]; exact hc)) rfl
    refine run_go hr hS (fun v M' H1 locs1 hq hP1 hS1 => ?_)
    rw [opt_list]
    exact kk _ _ _ _ _ _ hq hl hP1 (wsM_D hD) hS1
  · exact h.elim
theorem s_callv (C : Cx p s m args meth c cc nL own ret g) (hcl : vwCl[k]? = some (RR, T0, N)) (hk7 : k < 7) (hy : y.cls = RR) (hs : Cs y cc' nL' ret' n d' d) (hlink : Cond.methodLink own ix y ∈ TT) (him : Cond.instanceMethod y ∈ TT) (hse : Cond.selects RR y y ∈ TT) (hd : decode cc pc = .ok (.invokevirtual ix, 3)) (hM : Ct l g y cc' nL' ret' d' T) (kk : Sj p l e d s m args below meth c nL g Qf (pc + 3) K) :
    Sj p l e d s m args below meth c nL g Qf pc (i_callv g k n T K) := by
  subst hy
  refine callv_any C hcl hk7 hM kk fun hm hp h1 h2 h3 h4 h5 h6 => ?_
  refine va_runV ⟨C.1, C.2.1, C.2.2.1, C.2.2.2.1, C.2.2.2.2.1⟩ hm (cwV n C.2.2.2.2.1 (fun w hw => ?_) rfl rfl rfl ⟨rfl, hs.2.2.1⟩ (cs_room hs.2.2.2.1 hs.2.2.2.2)) hp h1 h2 h3 h4 h5 (by rw [h6]; exact hd) ⟨Nat.zero_le _, Nat.zero_le _⟩
  rcases List.mem_append.mp hw with hw | hw
  · simp only [List.mem_cons, List.not_mem_nil, or_false] at hw
    rcases hw with rfl | rfl | rfl | rfl
    · exact TT_pay (ws := [_]) (fun w hw => by rw [List.mem_singleton.mp hw]; exact hlink) _ (List.mem_singleton.mpr rfl)
    · exact TT_pay (ws := [_]) (fun w hw => by rw [List.mem_singleton.mp hw]; exact him) _ (List.mem_singleton.mpr rfl)
    · exact TT_pay (ws := [_]) (fun w hw => by rw [List.mem_singleton.mp hw]; exact hse) _ (List.mem_singleton.mpr rfl)
    · exact TT_pay (ws := [_]) (fun w hw => by rw [List.mem_singleton.mp hw]; exact hs.2.1) _ (List.mem_singleton.mpr rfl)
  · exact cs_pay hs.1 w hw
theorem s_callvN {host : String} (C : Cx p s m args meth c cc nL own ret g) (hcl : vwCl[k]? = some (RR, T0, N)) (hk7 : k < 7) (hy : y.cls = RR) (hs : Cs y cc' nL' ret' n d' d) (hlink : Cond.methodLinkNest own ix y host ∈ NW) (him : Cond.instanceMethod y ∈ TT) (hse : Cond.selects RR y y ∈ TT) (hd : decode cc pc = .ok (.invokevirtual ix, 3)) (hM : Ct l g y cc' nL' ret' d' T) (kk : Sj p l e d s m args below meth c nL g Qf (pc + 3) K) :
    Sj p l e d s m args below meth c nL g Qf pc (i_callv g k n T K) := by
  subst hy
  refine callv_any C hcl hk7 hM kk fun hm hp h1 h2 h3 h4 h5 h6 => ?_
  exact va_runVN ⟨C.1, C.2.1, C.2.2.1, C.2.2.2.1, C.2.2.2.2.1⟩ hm ⟨va_cnB n C.2.2.2.2.1 (cs_pay hs.1) rfl rfl rfl (C.2.2.2.2.2.2.2.2.2.2.2.2.2.2 _ hlink) (C.2.2.2.2.1 _ hs.2.1) hs.2.2.1 (cs_room hs.2.2.2.1 hs.2.2.2.2), C.2.2.2.2.1 _ him, C.2.2.2.2.1 _ hse⟩ hp h1 h2 h3 h4 h5 (by rw [h6]; exact hd) ⟨Nat.zero_le _, Nat.zero_le _⟩
theorem calls_any (C : Cx p s m args meth c cc nL own ret g) (hM : Ct l g y cc' nL' ret' d' T) (kk : Sj p l e d s m args below meth c nL g Qf (pc + 3) K)
    (run : ∀ {Pc : Array Value → State → Prop} {Qc : Array Value → State → Outcome → State → Prop} {H : Heap} {locs : List Loc} {As rest : List Value} {gg : JFrame}, Met l y (.code y cc' nL' ret' :: TT) (rmD d') Pc Qc 0 0 (gA g) → PreS s H Pc As → gg.method = m → As.length = n → gg.locals.size = nL → gg.stack = As.reverse ++ rest → 2 * gg.monitorRoom + (rest.map fun v => v.category).sum ≤ 8 → gg.pc = pc → va_Run p l e (rmD d) s m args below meth c H locs 0 0 0 0 gg rest (Qc As.toArray) (gA g)) :
    Sj p l e d s m args below meth c nL g Qf pc (i_calls n T K) := by
  intro lv st M H locs ls h hl hP hD hS
  obtain ⟨hn, hc, hT⟩ := h
  have hr := run (gg := F0 m pc ls (st.map (ev g))) (H := H) (locs := locs) (As := ((st.take n).reverse).map (ev g)) (rest := (st.drop n).map (ev g)) (hM _ _ _ hT)
    ⟨cPc_blind g _ M, fun U hU hW => ⟨rfl, by rw [hU]; exact hP, hD, va_K.moved hW.alike C.2.2.2.2.2.2.2.1, C.2.2.2.2.2.2.2.2.go (locs := locs) (by rw [hU]; exact hS) hW⟩⟩
    rfl (by simp; omega) hl.1 (by rw [List.map_reverse, List.reverse_reverse, ← List.map_append, List.take_append_drop]) (lv_room (by rw [csum_ev]; exact hc)) rfl
  refine run_go hr hS (fun v M' H1 locs1 hq hP1 hS1 => ?_)
  rw [opt_list]
  exact kk _ _ _ _ _ _ hq hl hP1 (wsM_D hD) hS1
theorem s_calls (C : Cx p s m args meth c cc nL own ret g) (hs : Cs y cc' nL' ret' n d' d) (hlink : Cond.methodLink own ix y ∈ TT) (hst : Cond.static y ∈ TT) (hd : decode cc pc = .ok (.invokestatic ix, 3)) (hM : Ct l g y cc' nL' ret' d' T) (kk : Sj p l e d s m args below meth c nL g Qf (pc + 3) K) :
    Sj p l e d s m args below meth c nL g Qf pc (i_calls n T K) := by
  refine calls_any C hM kk fun hm hp h1 h2 h3 h4 h5 h6 => ?_
  refine va_runS ⟨C.1, C.2.1, C.2.2.1, C.2.2.2.1, C.2.2.2.2.1⟩ hm ⟨callB_of n C.2.2.2.2.1 (cs_pay hs.1) rfl rfl rfl (C.2.2.2.2.1 _ hs.2.1) (C.2.2.2.2.1 _ hlink) hs.2.2.1 (cs_room hs.2.2.2.1 hs.2.2.2.2), C.2.2.2.2.1 _ hst⟩ hp h1 h2 h3 h4 h5 (by rw [h6]; exact hd) ⟨Nat.zero_le _, Nat.zero_le _⟩
theorem s_callsN {host : String} (C : Cx p s m args meth c cc nL own ret g) (hs : Cs y cc' nL' ret' n d' d) (hlink : Cond.methodLinkNest own ix y host ∈ NW) (hst : Cond.static y ∈ TT) (hd : decode cc pc = .ok (.invokestatic ix, 3)) (hM : Ct l g y cc' nL' ret' d' T) (kk : Sj p l e d s m args below meth c nL g Qf (pc + 3) K) :
    Sj p l e d s m args below meth c nL g Qf pc (i_calls n T K) := by
  refine calls_any C hM kk fun hm hp h1 h2 h3 h4 h5 h6 => ?_
  exact va_runSN ⟨C.1, C.2.1, C.2.2.1, C.2.2.2.1, C.2.2.2.2.1⟩ hm ⟨va_cnB n C.2.2.2.2.1 (cs_pay hs.1) rfl rfl rfl (C.2.2.2.2.2.2.2.2.2.2.2.2.2.2 _ hlink) (C.2.2.2.2.1 _ hs.2.1) hs.2.2.1 (cs_room hs.2.2.2.1 hs.2.2.2.2), C.2.2.2.2.1 _ hst, trivial⟩ hp h1 h2 h3 h4 h5 (by rw [h6]; exact hd) ⟨Nat.zero_le _, Nat.zero_le _⟩
theorem s_callk (C : Cx p s m args meth c cc nL own ret g) (hy : y.cls = "java/lang/String") (hs : Cs y cc' nL' ret' n d' d) (hlink : Cond.methodLink own ix y ∈ TT) (him : Cond.instanceMethod y ∈ TT) (hse : Cond.selects "java/lang/String" y y ∈ TT) (hd : decode cc pc = .ok (.invokevirtual ix, 3)) (hM : Ct l g y cc' nL' ret' d' T) (kk : Sj p l e d s m args below meth c nL g Qf (pc + 3) K) :
    Sj p l e d s m args below meth c nL g Qf pc (i_callk n T K) := by
  intro lv st M H locs ls h hl hP hD hS
  unfold i_callk at h
  split at h
  · next q r hst =>
    obtain ⟨⟨i, hi, rfl⟩, hc, hT⟩ := h
    refine run_go (va_runV (C := "java/lang/String") (b := gad g (200 + i)) (As := ((st.take n).reverse).map (ev g)) (rest := r.map (ev g)) ⟨C.1, C.2.1, C.2.2.1, C.2.2.2.1, C.2.2.2.2.1⟩ (hM _ _ _ hT) (cwV n C.2.2.2.2.1 (fun w hw => ?_) rfl rfl rfl ⟨hy, hs.2.2.1⟩ (cs_room hs.2.2.2.1 hs.2.2.2.2))
      ⟨cPc_blind g _ M, vk_recv (adK := fun i => gad g (200 + i)) (i := i) C.2.2.2.2.2.2.2.2.2.2.1 hi hS, fun U hU hW => ⟨rfl, by rw [hU]; exact hP, hD, va_K.moved hW.alike C.2.2.2.2.2.2.2.1, C.2.2.2.2.2.2.2.2.go (locs := locs) (by rw [hU]; exact hS) hW⟩⟩
      rfl (take_len hst) hl.1 (st_split hst) (lv_room (by rw [csum_ev]; exact hc)) hd ⟨Nat.zero_le _, Nat.zero_le _⟩) hS (fun v M' H1 locs1 hq hP1 hS1 => ?_)
    · rcases List.mem_append.mp hw with hw | hw
      · simp only [List.mem_cons, List.not_mem_nil, or_false] at hw
        rcases hw with rfl | rfl | rfl | rfl
        · exact TT_pay (ws := [_]) (fun w hw => by rw [List.mem_singleton.mp hw]; exact hlink) _ (List.mem_singleton.mpr rfl)
        · exact TT_pay (ws := [_]) (fun w hw => by rw [List.mem_singleton.mp hw]; exact him) _ (List.mem_singleton.mpr rfl)
        · exact TT_pay (ws := [_]) (fun w hw => by rw [List.mem_singleton.mp hw]; exact hse) _ (List.mem_singleton.mpr rfl)
        · exact TT_pay (ws := [_]) (fun w hw => by rw [List.mem_singleton.mp hw, ← hy]; exact hs.2.1) _ (List.mem_singleton.mpr rfl)
      · exact cs_pay hs.1 w hw
    · rw [opt_list]
      exact kk _ _ _ _ _ _ hq hl hP1 (wsM_D hD) hS1
  · exact h.elim
end VIRT
/-! Math, arraycopy, UNDER, strings -/
def f_max : Int32 → Int32 → Int32 := fun x y => if x < y then y else x
def f_min : Int32 → Int32 → Int32 := fun x y => if y < x then y else x
theorem s_max (C : Cx p s m args meth c cc nL own ret g) {ix : Nat} (hd1 : 1 ≤ d) (hlink : Cond.methodLink own ix Lib.Math.max.name ∈ TT) (hst : Cond.static Lib.Math.max.name ∈ TT) (hin : Cond.initialized "java/lang/Math" ∈ TT) (hco : Cond.code Lib.Math.max.name Lib.Math.max.code 2 (some .int) ∈ TT) (hd : decode cc pc = .ok (.invokestatic ix, 3)) (kk : Sj p l e d s m args below meth c nL g Qf (pc + 3) K) : Sj p l e d s m args below meth c nL g Qf pc (i_mm f_max K) := by
  intro lv st M H locs ls h hl hP hD hS
  unfold i_mm at h
  split at h
  · next y x r => exact va_mmax C.1 C.2.1 (C.2.2.1.trans hl.1.symm) C.2.2.2.1 (C.2.2.2.2.1 _ hlink) (C.2.2.2.2.1 _ hst) (C.2.2.2.2.1 _ hin) (C.2.2.2.2.1 _ hco) hd1 (by rw [csum_ev]; show _ ≤ 40 * d; omega) (Nat.zero_le _) (Nat.zero_le _) hd (kk _ _ _ _ _ _ (h.2 _ rfl) hl hP hD hS)
  · exact h.elim
theorem s_min (C : Cx p s m args meth c cc nL own ret g) {ix : Nat} (hd1 : 1 ≤ d) (hlink : Cond.methodLink own ix Lib.Math.min.name ∈ TT) (hst : Cond.static Lib.Math.min.name ∈ TT) (hin : Cond.initialized "java/lang/Math" ∈ TT) (hco : Cond.code Lib.Math.min.name Lib.Math.min.code 2 (some .int) ∈ TT) (hd : decode cc pc = .ok (.invokestatic ix, 3)) (kk : Sj p l e d s m args below meth c nL g Qf (pc + 3) K) : Sj p l e d s m args below meth c nL g Qf pc (i_mm f_min K) := by
  intro lv st M H locs ls h hl hP hD hS
  unfold i_mm at h
  split at h
  · next y x r => exact va_mmin C.1 C.2.1 (C.2.2.1.trans hl.1.symm) C.2.2.2.1 (C.2.2.2.2.1 _ hlink) (C.2.2.2.2.1 _ hst) (C.2.2.2.2.1 _ hin) (C.2.2.2.2.1 _ hco) hd1 (by rw [csum_ev]; show _ ≤ 40 * d; omega) (Nat.zero_le _) (Nat.zero_le _) hd (kk _ _ _ _ _ _ (h.2 _ rfl) hl hP hD hS)
  · exact h.elim
theorem mcpy_self (M : MM) (a0 a sp dp n : Nat) : mcpy M a0 a sp dp n a = va_cpy (M a0) (M a) sp dp n := by simp [mcpy]
theorem eE_cpy {g : WG} {M : MM} {a0 a x sp dp n : Nat} (h : x ≠ a) : eE g (mcpy M a0 a sp dp n) x = eE g M x := by
  have h0 : mcpy M a0 a sp dp n x = M x := by simp [mcpy, h]
  unfold eE
  rw [h0]
  have h1 : fv g (mcpy M a0 a sp dp n) x = fv g M x := by funext b; simp [fv, h0]
  have h2 : era g (mcpy M a0 a sp dp n) x = era g M x := by funext b; simp [era, h0]
  rw [h1, h2]
theorem s_copy (C : Cx p s m args meth c cc nL own ret g) {ix : Nat} (hd1 : 1 ≤ d) (hlink : Cond.methodLink own ix arraycopyName ∈ TT) (hnat : Cond.native arraycopyName ∈ TT) (hst : Cond.static arraycopyName ∈ TT) (hin : Cond.initialized "java/lang/System" ∈ TT) (hd : decode cc pc = .ok (.invokestatic ix, 3)) (kk : Sj p l e d s m args below meth c nL g Qf (pc + 3) K) : Sj p l e d s m args below meth c nL g Qf pc (i_copy g K) := by
  intro lv st M H locs ls h hl hP hD hS
  unfold i_copy at h
  split at h
  · next n dp a sp a0 r =>
    obtain ⟨⟨o1, o2, o3⟩, ⟨u1, u2, u3⟩, h1, h2, h3, h4, h5, hc, h⟩ := h
    obtain ⟨j0, hj1, hj2⟩ := wsM_in (g := g) M o1
    obtain ⟨j1, hk1, hk2⟩ := wsM_in (g := g) M u1
    have he0 : eE g M a0 = .inl (gC g 0, ln a0, .inl (M a0)) := by simp [eE, o2]
    have he1 : eE g M a = .inl (gC g 0, ln a, .inl (M a)) := by simp [eE, u2]
    have he2 : eE g (mcpy M a0 a sp.toNatClampNeg dp.toNatClampNeg n.toNatClampNeg) a = .inl (gC g 0, ln a, .inl (va_cpy (M a0) (M a) sp.toNatClampNeg dp.toNatClampNeg n.toNatClampNeg)) := by simp [eE, u2, mcpy_self]
    rw [he0] at hj2
    rw [he1] at hk2
    have hset := wsM_set hD hk1 he2 (fun x hx => eE_cpy hx)
    refine va_copyi C.1 C.2.1 (C.2.2.1.trans hl.1.symm) C.2.2.2.1 (C.2.2.2.2.1 _ hlink) (C.2.2.2.2.1 _ hnat) (C.2.2.2.2.1 _ hst) (C.2.2.2.2.1 _ hin) C.2.2.2.2.2.2.2.1 hP hD hS j0 j1 0 0 hj2 hk2 rfl rfl rfl h1 h2 h3 h4 h5 (fun _ _ => rfl) hd1 ?_ hd (fun H1 locs1 hP1 hD1 hS1 => ?_)
    · have hn : nativeFrameWords "java/lang/System" "arraycopy" 5 ≤ 21 := by decide +kernel
      rw [csum_ev]; show _ ≤ 40 * d; omega
    · rw [hset] at hP1 hD1
      exact kk _ _ _ _ _ _ h hl hP1 hD1 hS1
  · exact h.elim
theorem s_under (C : Cx p s m args meth c cc nL own ret g) {ix : Nat} (hlink : Cond.fieldLink own ix RX5 "UNDER" "[I" ∈ TT) (hd : decode cc pc = .ok (.getstatic ix, 3)) (kk : Sj p l e d s m args below meth c nL g Qf (pc + 3) K) : Sj p l e d s m args below meth c nL g Qf pc (i_under K) :=
  fun lv st M H locs ls h hl hP hD hS => va_gets (v := ev g (.ref 1000)) C.1 C.2.1 C.2.2.2.2.2.2.2.2.1 hS C.2.2.2.1 (C.2.2.2.2.1 _ hlink) (fun _ h => h) hd (kk _ _ _ _ _ _ h hl hP hD hS)
theorem s_undld (C : Cx p s m args meth c cc nL own ret g) (hd : decode cc pc = .ok (.iaload, 1)) (kk : Sj p l e d s m args below meth c nL g Qf (pc + 1) K) : Sj p l e d s m args below meth c nL g Qf pc (i_undld K) := by
  intro lv st M H locs ls h hl hP hD hS
  unfold i_undld at h
  split at h
  · next i q r =>
    obtain ⟨rfl, hin, h⟩ := h
    exact va_ti C.1 C.2.1 C.2.2.2.2.2.2.2.2.2.1 hS hin rfl hd (kk _ _ _ _ _ _ (h _ rfl) hl hP hD hS)
  · exact h.elim
theorem s_ldcs (C : Cx p s m args meth c cc nL own ret g) {ix : Nat} {tx : String} (i : Nat) (hk : kS[i]? = some (own, ix, tx)) (hd : decode cc pc = .ok (.ldc ix, 2)) (kk : Sj p l e d s m args below meth c nL g Qf (pc + 2) K) : Sj p l e d s m args below meth c nL g Qf pc (i_ldcs i K) :=
  fun lv st M H locs ls h hl hP hD hS => va_ldcS C.1 C.2.1 C.2.2.2.1 (C.2.2.2.2.2.2.2.2.2.2.2.1 i _ hk) hd (kk _ _ _ _ _ _ h hl hP hD hS)
/-! the start of a body -/
theorem lent_ev (g : WG) : ∀ (as : List Value) (i : Nat), (∀ v ∈ as, v.category = 1) → lv_args i (as.map (ev g)) = evL g (lent i as)
  | [], _, _ => rfl
  | a :: t, i, h => by
    have h1 : (ev g a).category = 1 := (ev_cat g a).trans (h a List.mem_cons_self)
    simp only [List.map_cons, lv_args, lent]
    rw [if_neg (by rw [h1]; decide), lent_ev g t (i + 1) (fun v hv => h v (List.mem_cons_of_mem _ hv))]
theorem lent_len (g : WG) : ∀ (as : List Value), (∀ v ∈ as, v.category = 1) → (lg_sl (as.map (ev g))).length = as.length
  | [], _ => rfl
  | a :: t, h => by
    have h1 : (ev g a).category = 1 := (ev_cat g a).trans (h a List.mem_cons_self)
    have h2 := lent_len g t (fun v hv => h v (List.mem_cons_of_mem _ hv))
    simp only [lg_sl, List.map_cons, List.flatMap_cons, List.length_append] at h2 ⊢
    rw [if_neg (by rw [h1]; decide), h2]
    simp; omega
end ROWS
theorem Ct.of {l : Launch} {g : WG} {y : MethodName} {cc : ByteArray} {nL d : Nat} {ret : Option FieldType} {T : PT} (hy : plainName y.cls = true) (hlen : ∀ as M Q, T as M Q → as.length ≤ nL ∧ ∀ v ∈ as, v.category = 1)
    (body : ∀ (p : Program) (e : Env) (s : State) (m : MethodId) (args : Array Value) (below : List Frame) (meth : Method) (c : Code) (as : List Value) (M : MM) (Q : Option Value → MM → Prop), T as M Q → Cx p s m args meth c cc nL y.cls ret g →
      Sj p l e d s m args below meth c nL g (MQ below (cQc g Q) args s 0 0 (gA g)) 0 (i_start as M)) : Ct l g y cc nL ret d T := by
  intro as M Q hT
  obtain ⟨h1, h2⟩ := hlen as M Q hT
  refine Met.ofW (cc := cc) (maxL := nL) (ret := ret) hy rfl ?_
  intro p e s m args below meth c s₁ B hml hv
  obtain ⟨rfl, hP, hD, hK, hE⟩ := hv
  have hts := atoms_spec (ws := Cond.code y cc nL ret :: TT) B.pre
  have hl := lv_entry (as.map (ev g)) (n := nL) (by rw [lent_len g as h2]; exact h1)
  rw [lg_entry_eq]
  rw [lent_ev g as 0 h2] at hl
  exact body p e s m _ below meth c as M Q hT ⟨B.exec, B.bytes, hml, findClass_of_methodNamed B.named, fun w hw => hts w (List.mem_cons_of_mem _ hw), B.returns, B.notSynchronized, hK, hE⟩ _ _ _ _ _ _ ⟨rfl, rfl, rfl⟩ hl hP hD va_S.rf
