/-! ===== the rows again, for a room and counts of their own ===== -/
def Sk (p : Program) (l : Launch) (e : Env) (R : Room) (s : State) (m : MethodId) (args : Array Value) (below : List Frame) (meth : Method) (c : Code) (nL : Nat) (g : WG) (k9 n9 : Nat) (Qf : State → Prop) (pc : Nat) (P : PP) : Prop :=
  ∀ (lv : List (Nat × Value)) (st : List Value) (M : MM) (H : Heap) (locs : List Loc) (ls : Array Slot), P lv st M → lv_has ls nL (evL g lv) → va_P (gD g) vwCl (wsM g M) H → va_D (gA g) (wsM g M) → va_S (gA g) s.heap H locs →
    W p l e R s m args below meth c H locs k9 n9 Qf (F0 m pc ls (st.map (ev g)))
section ROWK
variable {p : Program} {l : Launch} {e : Env} {R : Room} {s : State} {m : MethodId} {args : Array Value} {below : List Frame} {meth : Method} {c : Code}
variable {cc : ByteArray} {nL : Nat} {own : String} {ret : Option FieldType} {g : WG} {k9 n9 : Nat} {Qf : State → Prop} {pc : Nat} {K KT KF : PP}
theorem z_of {P P' : PP} (h : ∀ lv st M, P lv st M → P' lv st M) (k : Sk p l e R s m args below meth c nL g k9 n9 Qf pc P') : Sk p l e R s m args below meth c nL g k9 n9 Qf pc P := fun lv st M H locs ls hp => k lv st M H locs ls (h lv st M hp)
theorem z_keep (ks : List Nat) (k : Sk p l e R s m args below meth c nL g k9 n9 Qf pc K) : Sk p l e R s m args below meth c nL g k9 n9 Qf pc (i_keep ks K) := by
  intro lv st M H locs ls h hl hP hD hS
  refine k _ _ _ _ _ _ h (lv_mono hl fun q hq => ?_) hP hD hS
  obtain ⟨r, hr, rfl⟩ := List.mem_map.mp hq
  exact List.mem_map.mpr ⟨r, mem_lkeep hr, rfl⟩
theorem z_iconst (C : Cx p s m args meth c cc nL own ret g) {n : Int} (v : Int32) (hd : decode cc pc = .ok (.iconst n, 1)) (hv : Int32.ofInt n = v) (k : Sk p l e R s m args below meth c nL g k9 n9 Qf (pc + 1) K) : Sk p l e R s m args below meth c nL g k9 n9 Qf pc (i_const v K) :=
  fun lv st M H locs ls h hl hP hD hS => lv_iconst C.1 C.2.1 hd hv (k _ _ _ _ _ _ h hl hP hD hS)
theorem z_bipush (C : Cx p s m args meth c cc nL own ret g) {n : Int} (v : Int32) (hd : decode cc pc = .ok (.bipush n, 2)) (hv : (Int8.ofInt n).toInt32 = v) (k : Sk p l e R s m args below meth c nL g k9 n9 Qf (pc + 2) K) : Sk p l e R s m args below meth c nL g k9 n9 Qf pc (i_const v K) :=
  fun lv st M H locs ls h hl hP hD hS => lv_bipush C.1 C.2.1 hd hv (k _ _ _ _ _ _ h hl hP hD hS)
theorem z_sipush (C : Cx p s m args meth c cc nL own ret g) {n : Int} (v : Int32) (hd : decode cc pc = .ok (.sipush n, 3)) (hv : (Int16.ofInt n).toInt32 = v) (k : Sk p l e R s m args below meth c nL g k9 n9 Qf (pc + 3) K) : Sk p l e R s m args below meth c nL g k9 n9 Qf pc (i_const v K) :=
  fun lv st M H locs ls h hl hP hD hS => lv_sipush C.1 C.2.1 hd hv (k _ _ _ _ _ _ h hl hP hD hS)
theorem z_iload_n (C : Cx p s m args meth c cc nL own ret g) {f : Fin 4} (i : Nat) (hd : decode cc pc = .ok (.iload_n f, 1)) (hi : (f : Nat) = i) (k : Sk p l e R s m args below meth c nL g k9 n9 Qf (pc + 1) K) : Sk p l e R s m args below meth c nL g k9 n9 Qf pc (i_iload i K) := by
  intro lv st M H locs ls h hl hP hD hS
  unfold i_iload at h
  split at h
  · next x hx => exact lv_iload_n C.1 C.2.1 hd hi (lg_at hl hx) (k _ _ _ _ _ _ h hl hP hD hS)
  · exact h.elim
theorem z_aload_n (C : Cx p s m args meth c cc nL own ret g) {f : Fin 4} (i : Nat) (hd : decode cc pc = .ok (.aload_n f, 1)) (hi : (f : Nat) = i) (k : Sk p l e R s m args below meth c nL g k9 n9 Qf (pc + 1) K) : Sk p l e R s m args below meth c nL g k9 n9 Qf pc (i_aload i K) := by
  intro lv st M H locs ls h hl hP hD hS
  unfold i_aload at h
  split at h
  · next x hx => exact lv_aload_n C.1 C.2.1 hd hi (lg_at hl hx) (k _ _ _ _ _ _ h hl hP hD hS)
  · exact h.elim
theorem z_istore_n (C : Cx p s m args meth c cc nL own ret g) {f : Fin 4} (i : Nat) (hd : decode cc pc = .ok (.istore_n f, 1)) (hi : (f : Nat) = i) (hn : i < nL) (k : Sk p l e R s m args below meth c nL g k9 n9 Qf (pc + 1) K) : Sk p l e R s m args below meth c nL g k9 n9 Qf pc (i_istore i K) := by
  intro lv st M H locs ls h hl hP hD hS
  unfold i_istore at h
  split at h
  · exact lv_istore_n C.1 C.2.1 hd hi hl hn rfl (fun ls' hl' => k _ _ _ _ _ _ h (lset_of hl') hP hD hS)
  · exact h.elim
theorem z_astore_n (C : Cx p s m args meth c cc nL own ret g) {f : Fin 4} (i : Nat) (hd : decode cc pc = .ok (.astore_n f, 1)) (hi : (f : Nat) = i) (hn : i < nL) (k : Sk p l e R s m args below meth c nL g k9 n9 Qf (pc + 1) K) : Sk p l e R s m args below meth c nL g k9 n9 Qf pc (i_astore i K) := by
  intro lv st M H locs ls h hl hP hD hS
  unfold i_astore at h
  split at h
  · exact lv_astore_n C.1 C.2.1 hd hi hl hn rfl (fun ls' hl' => k _ _ _ _ _ _ h (lset_of (v := .ref _) hl') hP hD hS)
  · exact h.elim
theorem z_iinc (C : Cx p s m args meth c cc nL own ret g) {i : Nat} {n : Int} (v : Int32) (hd : decode cc pc = .ok (.iinc i n, 3)) (hv : Int32.ofInt n = v) (hn : i < nL) (k : Sk p l e R s m args below meth c nL g k9 n9 Qf (pc + 3) K) : Sk p l e R s m args below meth c nL g k9 n9 Qf pc (i_iinc i v K) := by
  intro lv st M H locs ls h hl hP hD hS
  unfold i_iinc at h
  split at h
  · next x hx =>
    have h1 : (i, Value.int x) ∈ evL g lv := by
      have h2 := lg_at hl hx
      exact List.mem_map.mpr ⟨(i, .int x), by
        clear h2 h hP hD hS hl
        induction lv with
        | nil => cases hx
        | cons q t ih =>
          obtain ⟨k, w⟩ := q
          simp only [lg] at hx
          cases hk : k == i with
          | true => rw [hk] at hx; cases hx; rw [beq_iff_eq] at hk; subst hk; exact List.mem_cons_self
          | false => rw [hk] at hx; exact List.mem_cons_of_mem _ (ih hx), rfl⟩
    obtain ⟨j, hj⟩ := List.getElem?_of_mem h1
    exact lv_iinc C.1 C.2.1 hd hl hj (by rw [hv]) hn rfl (fun ls' hl' => k _ _ _ _ _ _ (h _ rfl) (lset_of hl') hP hD hS)
  · exact h.elim
theorem z_iadd (C : Cx p s m args meth c cc nL own ret g) (hd : decode cc pc = .ok (.iadd, 1)) (k : Sk p l e R s m args below meth c nL g k9 n9 Qf (pc + 1) K) : Sk p l e R s m args below meth c nL g k9 n9 Qf pc (i_bin f_iadd K) := by
  intro lv st M H locs ls h hl hP hD hS
  unfold i_bin at h
  split at h
  · exact lv_iadd C.1 C.2.1 hd (k _ _ _ _ _ _ (h _ rfl) hl hP hD hS)
  · exact h.elim
theorem z_isub (C : Cx p s m args meth c cc nL own ret g) (hd : decode cc pc = .ok (.isub, 1)) (k : Sk p l e R s m args below meth c nL g k9 n9 Qf (pc + 1) K) : Sk p l e R s m args below meth c nL g k9 n9 Qf pc (i_bin f_isub K) := by
  intro lv st M H locs ls h hl hP hD hS
  unfold i_bin at h
  split at h
  · exact lv_isub C.1 C.2.1 hd (k _ _ _ _ _ _ (h _ rfl) hl hP hD hS)
  · exact h.elim
theorem z_iand (C : Cx p s m args meth c cc nL own ret g) (hd : decode cc pc = .ok (.iand, 1)) (k : Sk p l e R s m args below meth c nL g k9 n9 Qf (pc + 1) K) : Sk p l e R s m args below meth c nL g k9 n9 Qf pc (i_bin f_iand K) := by
  intro lv st M H locs ls h hl hP hD hS
  unfold i_bin at h
  split at h
  · exact lv_iand C.1 C.2.1 hd (k _ _ _ _ _ _ (h _ rfl) hl hP hD hS)
  · exact h.elim
theorem z_lcmp (C : Cx p s m args meth c cc nL own ret g) (hd : decode cc pc = .ok (.lcmp, 1)) (k : Sk p l e R s m args below meth c nL g k9 n9 Qf (pc + 1) K) : Sk p l e R s m args below meth c nL g k9 n9 Qf pc (i_lcmp K) := by
  intro lv st M H locs ls h hl hP hD hS
  unfold i_lcmp at h
  split at h
  · exact W.lcmp C.1 C.2.1 hd (k _ _ _ _ _ _ (h _ rfl) hl hP hD hS)
  · exact h.elim
theorem z_if_eq (C : Cx p s m args meth c cc nL own ret g) {off : Int} {tgt : Nat} (hd : decode cc pc = .ok (.ifCond .eq off, 3)) (ht : (pc : Int) + off = (tgt : Int)) (kt : Sk p l e R s m args below meth c nL g k9 n9 Qf tgt KT) (kf : Sk p l e R s m args below meth c nL g k9 n9 Qf (pc + 3) KF) : Sk p l e R s m args below meth c nL g k9 n9 Qf pc (i_if c_eq KT KF) := by
  intro lv st M H locs ls h hl hP hD hS
  unfold i_if at h
  split at h
  · refine lv_if_eq C.1 C.2.1 hd ht (fun q => kt _ _ _ _ _ _ (h.1 q) hl hP hD hS) (fun q => kf _ _ _ _ _ _ (h.2 ?_) hl hP hD hS)
    exact q
  · exact h.elim
theorem z_icmp_eq (C : Cx p s m args meth c cc nL own ret g) {off : Int} {tgt : Nat} (hd : decode cc pc = .ok (.if_icmp .eq off, 3)) (ht : (pc : Int) + off = (tgt : Int)) (kt : Sk p l e R s m args below meth c nL g k9 n9 Qf tgt KT) (kf : Sk p l e R s m args below meth c nL g k9 n9 Qf (pc + 3) KF) : Sk p l e R s m args below meth c nL g k9 n9 Qf pc (i_icmp cc_eq KT KF) := by
  intro lv st M H locs ls h hl hP hD hS
  unfold i_icmp at h
  split at h
  · refine lv_icmp_eq C.1 C.2.1 hd ht (fun q => kt _ _ _ _ _ _ (h.1 q) hl hP hD hS) (fun q => kf _ _ _ _ _ _ (h.2 ?_) hl hP hD hS)
    exact q
  · exact h.elim
theorem z_icmp_ge (C : Cx p s m args meth c cc nL own ret g) {off : Int} {tgt : Nat} (hd : decode cc pc = .ok (.if_icmp .ge off, 3)) (ht : (pc : Int) + off = (tgt : Int)) (kt : Sk p l e R s m args below meth c nL g k9 n9 Qf tgt KT) (kf : Sk p l e R s m args below meth c nL g k9 n9 Qf (pc + 3) KF) : Sk p l e R s m args below meth c nL g k9 n9 Qf pc (i_icmp cc_ge KT KF) := by
  intro lv st M H locs ls h hl hP hD hS
  unfold i_icmp at h
  split at h
  · refine lv_icmp_ge C.1 C.2.1 hd ht (fun q => kt _ _ _ _ _ _ (h.1 q) hl hP hD hS) (fun q => kf _ _ _ _ _ _ (h.2 ?_) hl hP hD hS)
    exact q
  · exact h.elim
theorem z_icmp_gt (C : Cx p s m args meth c cc nL own ret g) {off : Int} {tgt : Nat} (hd : decode cc pc = .ok (.if_icmp .gt off, 3)) (ht : (pc : Int) + off = (tgt : Int)) (kt : Sk p l e R s m args below meth c nL g k9 n9 Qf tgt KT) (kf : Sk p l e R s m args below meth c nL g k9 n9 Qf (pc + 3) KF) : Sk p l e R s m args below meth c nL g k9 n9 Qf pc (i_icmp cc_gt KT KF) := by
  intro lv st M H locs ls h hl hP hD hS
  unfold i_icmp at h
  split at h
  · refine lv_icmp_gt C.1 C.2.1 hd ht (fun q => kt _ _ _ _ _ _ (h.1 q) hl hP hD hS) (fun q => kf _ _ _ _ _ _ (h.2 ?_) hl hP hD hS)
    exact q
  · exact h.elim
theorem z_goto (C : Cx p s m args meth c cc nL own ret g) {off : Int} {tgt : Nat} (hd : decode cc pc = .ok (.goto off, 3)) (ht : (pc : Int) + off = (tgt : Int)) (k : Sk p l e R s m args below meth c nL g k9 n9 Qf tgt K) : Sk p l e R s m args below meth c nL g k9 n9 Qf pc K :=
  fun lv st M H locs ls h hl hP hD hS => lv_goto C.1 C.2.1 hd ht (k _ _ _ _ _ _ h hl hP hD hS)
def ZkL (p : Program) (l : Launch) (e : Env) (R : Room) (s : State) (m : MethodId) (args : Array Value) (below : List Frame) (meth : Method) (c : Code) (nL : Nat) (g : WG) (k9 n9 : Nat) (Qf : State → Prop) : List Nat → List (Int32 × PP) → Prop
  | [], [] => True
  | t :: ts, q :: qs => Sk p l e R s m args below meth c nL g k9 n9 Qf t q.2 ∧ ZkL p l e R s m args below meth c nL g k9 n9 Qf ts qs
  | _, _ => False
theorem zjl_0 : ZkL p l e R s m args below meth c nL g k9 n9 Qf [] [] := trivial
theorem zjl_c {t : Nat} {q : Int32 × PP} {ts : List Nat} {qs : List (Int32 × PP)} (h : Sk p l e R s m args below meth c nL g k9 n9 Qf t q.2) (h2 : ZkL p l e R s m args below meth c nL g k9 n9 Qf ts qs) : ZkL p l e R s m args below meth c nL g k9 n9 Qf (t :: ts) (q :: qs) := ⟨h, h2⟩
theorem zjl_at : ∀ {ts : List Nat} {qs : List (Int32 × PP)}, ZkL p l e R s m args below meth c nL g k9 n9 Qf ts qs → ∀ {q : Int32 × PP}, q ∈ qs → ∃ t, (q.1, t) ∈ (qs.map Prod.fst).zip ts ∧ Sk p l e R s m args below meth c nL g k9 n9 Qf t q.2
  | [], [], _, q, hq => by simp at hq
  | t :: ts, q0 :: qs, h, q, hq => by
    rcases List.mem_cons.mp hq with hq | hq
    · exact ⟨t, by simp [hq], by rw [hq]; exact h.1⟩
    · obtain ⟨t', a, d'⟩ := zjl_at h.2 hq
      exact ⟨t', by simp only [List.map_cons, List.zip_cons_cons]; exact List.mem_cons_of_mem _ a, d'⟩
  | [], q :: qs, h, _, _ => h.elim
  | t :: ts, [], h, _, _ => h.elim
theorem z_table (C : Cx p s m args meth c cc nL own ret g) {dflt lo hi : Int} {offs : Array Int} {len : Nat} (ts : List Nat) (vs : List Int32) (dt : Nat) {cs : List (Int32 × PP)} (hd : decode cc pc = .ok (.tableswitch dflt lo hi offs, len)) (hv : cs.map Prod.fst = vs) (hc : tb_ok pc dflt lo hi offs.toList (vs.zip ts) dt = true) (hk : ZkL p l e R s m args below meth c nL g k9 n9 Qf ts cs) (k : Sk p l e R s m args below meth c nL g k9 n9 Qf dt K) : Sk p l e R s m args below meth c nL g k9 n9 Qf pc (i_sw cs K) := by
  intro lv st M H locs ls h hl hP hD hS
  unfold i_sw at h
  simp only [tb_ok, Bool.and_eq_true, decide_eq_true_eq, List.all_eq_true, Bool.or_eq_true, List.any_eq_true] at hc
  obtain ⟨⟨⟨h1, h2⟩, h3⟩, h4⟩ := hc
  split at h
  · next x r =>
    rcases swc_of h with ⟨q, b, rfl, hq2⟩ | ⟨hx, h⟩
    · obtain ⟨t, a, kq⟩ := zjl_at hk b
      rw [hv] at a
      obtain ⟨⟨g1, g2⟩, g3⟩ := h3 _ a
      dsimp only at g1 g2 g3
      refine lv_tableIn (off := (t : Int) - pc) (tgt := t) C.1 C.2.1 hd (by omega) (by omega) ?_ (by omega) (kq _ _ _ _ _ _ hq2 hl hP hD hS)
      rw [← Array.getElem?_toList]; exact g3
    · have kd := k _ _ _ _ _ _ h hl hP hD hS
      by_cases ho : x.toInt < lo ∨ hi < x.toInt
      · exact lv_tableOut C.1 C.2.1 hd ho h1 kd
      · have hr : (x.toInt - lo).toNat < offs.toList.length := by omega
        rcases h4 _ (List.mem_range.mpr hr) with ⟨q, hq, e⟩ | g3
        · refine absurd ?_ hx
          have e2 : x = q.1 := Int32.toInt_inj.mp (by omega)
          rw [hv, e2]
          exact (List.of_mem_zip (a := q.1) (b := q.2) hq).1
        · refine lv_tableIn (off := (dt : Int) - pc) (tgt := dt) C.1 C.2.1 hd (by omega) (by omega) ?_ (by omega) kd
          rw [← Array.getElem?_toList]; exact g3
  · exact h.elim
theorem z_getr (C : Cx p s m args meth c cc nL own ret g) {ix : Nat} {ref RR : String} {T : u_T} {N : Nat} (k j : Nat) (hcl : vwCl[k]? = some (RR, T, N)) (hin : ∀ w ∈ u_ws RR T N, w ∈ TT) (hN : nf k = N) (hk7 : k < 7) (hj : j < N) (hw : Cond.fieldLink own ix ref (T j).2.1 (T j).2.2.1 ∈ TT) (hsame : (T j).1 = ref) (hs : sty k j = 1) (hd : decode cc pc = .ok (.getfield ix, 3)) (kk : Sk p l e R s m args below meth c nL g k9 n9 Qf (pc + 3) K) : Sk p l e R s m args below meth c nL g k9 n9 Qf pc (i_getr g k j K) := by
  intro lv st M H locs ls h hl hP hD hS
  unfold i_getr at h
  split at h
  · next q r =>
    obtain ⟨⟨o1, o2, o3⟩, h⟩ := h
    obtain ⟨i, hi1, hi2⟩ := wsM_in (g := g) M o1
    have hf : fv g M q j = .ref (q + rfo k j) := by simp only [fv, o2]; rw [if_neg (by omega), if_pos ⟨hs, o3⟩]
    have he : eE g M q = .inr (k, (List.range N).map (fun j => ev g (fv g M q j))) := by simp only [eE, o2, hN]; rw [if_pos hk7]
    rw [he] at hi2
    skip
    exact va_get (v := ev g (.ref (q + rfo k j))) C.1 C.2.1 C.2.2.2.2.1 hin C.2.2.2.1 C.2.2.2.2.2.2.2.1 hP i hi2 hcl j hj (C.2.2.2.2.1 _ hw) (fun x hx => by rw [← hsame]; exact hx) (by simp [hj, hf]) hd (kk _ _ _ _ _ _ h hl hP hD hS)
  · exact h.elim
theorem z_puti (C : Cx p s m args meth c cc nL own ret g) {ix : Nat} {ref RR : String} {T : u_T} {N : Nat} (k j : Nat) (hcl : vwCl[k]? = some (RR, T, N)) (hin : ∀ w ∈ u_ws RR T N, w ∈ TT) (hN : nf k = N) (hk7 : k < 7) (hj : j < N) (hw : Cond.fieldLink own ix ref (T j).2.1 (T j).2.2.1 ∈ TT) (hsame : (T j).1 = ref) (hs : sty k j = 0) (ty0 : Nat → FieldType) (hty : ∀ k, k < N → parseFieldDescriptor (T k).2.2.1 = some (ty0 k)) (hnm : ∀ a, a < N → ∀ b, b < N → a ≠ b → (T a).2.1 ≠ (T b).2.1) (hfin : (T j).2.2.2 = false) (hd2 : parseFieldDescriptor (T j).2.2.1 = some .int) (hd : decode cc pc = .ok (.putfield ix, 3)) (kk : Sk p l e R s m args below meth c nL g k9 n9 Qf (pc + 3) K) : Sk p l e R s m args below meth c nL g k9 n9 Qf pc (i_puti g k j K) := by
  intro lv st M H locs ls h hl hP hD hS
  unfold i_puti at h
  split at h
  · next x q r =>
    obtain ⟨⟨o1, o2, o3⟩, h⟩ := h
    obtain ⟨i, hi1, hi2⟩ := wsM_in (g := g) M o1
    have hf : fv g (mset M q j x) q j = .int x := by simp only [fv, o2]; rw [if_pos hs]; simp [mset]
    have he : eE g M q = .inr (k, (List.range N).map (fun j => ev g (fv g M q j))) := by simp only [eE, o2, hN]; rw [if_pos hk7]
    have he2 : eE g (mset M q j x) q = .inr (k, ((List.range N).map (fun j => ev g (fv g M q j))).set j (ev g (.int x))) := by
      simp only [eE, o2, hN]; rw [if_pos hk7]
      congr 2
      apply List.ext_getElem?
      intro b
      rw [List.getElem?_set]
      by_cases hb : j = b
      · subst hb; simp [hj, hf]
      · rw [if_neg hb]
        have hbj : ¬ b = j := fun e => hb e.symm
        by_cases hbN : b < N
        · simp [hbN, fv, mset, hbj]
        · simp [hbN]
    rw [he] at hi2
    have hset := fun z => wsM_set (M' := mset M q j x) (e' := .inr (k, ((List.range N).map (fun j => ev g (fv g M q j))).set j (ev g (.int x)))) hD hi1 he2 z
    have hset := hset (fun a ha => eE_ne ha)
    refine va_put (v := ev g (.int x)) C.1 C.2.1 C.2.2.2.2.1 hin ty0 hty hnm C.2.2.2.1 C.2.2.2.2.2.2.2.1 hP hD hS i hi2 hcl j hj (C.2.2.2.2.1 _ hw) (fun x hx => by rw [← hsame]; exact hx) hfin hd2 rfl rfl (by simp [hj]) hd (fun H1 locs1 hP1 hD1 hS1 => ?_)
    rw [hset] at hP1 hD1
    exact kk _ _ _ _ _ _ h hl hP1 hD1 hS1
  · exact h.elim
theorem z_iast (C : Cx p s m args meth c cc nL own ret g) (hd : decode cc pc = .ok (.iastore, 1)) (kk : Sk p l e R s m args below meth c nL g k9 n9 Qf (pc + 1) K) : Sk p l e R s m args below meth c nL g k9 n9 Qf pc (i_iast g K) := by
  intro lv st M H locs ls h hl hP hD hS
  unfold i_iast at h
  split at h
  · next x i q r =>
    obtain ⟨⟨o1, o2, o3⟩, hin, h⟩ := h
    obtain ⟨j, hj1, hj2⟩ := wsM_in (g := g) M o1
    have he : eE g M q = .inl (gC g 0, ln q, .inl (M q)) := by simp [eE, o2]
    have he2 : eE g (mset M q i.toNatClampNeg x) q = .inl (gC g 0, ln q, .inl (upd (M q) i.toNatClampNeg x)) := by simp [eE, o2, mset_self]
    rw [he] at hj2
    have hset := wsM_set hD hj1 he2 (fun a ha => eE_ne ha)
    refine va_iast C.1 C.2.1 C.2.2.2.2.2.2.2.1 hP hD hS j 0 hj2 rfl hin hd (fun H1 locs1 hP1 hD1 hS1 => ?_)
    rw [hset] at hP1 hD1
    exact kk _ _ _ _ _ _ h hl hP1 hD1 hS1
  · exact h.elim
theorem zun_go {st0 rest : List Value} {a : Array Value} {H : Heap} {locs : List Loc} {ls : Array Slot} {Q : Option Value → MM → Prop} (hr : va_Run p l e R s m args below meth c H locs k9 n9 0 0 (F0 m pc ls st0) rest (cQc g Q a) (gA g)) (hS : va_S (gA g) s.heap H locs)
    (kk : ∀ (r : Option Value) (M' : MM) (H1 : Heap) (locs1 : List Loc), Q r M' → va_P (gD g) vwCl (wsM g M') H1 → va_S (gA g) s.heap H1 locs1 → W p l e R s m args below meth c H1 locs1 k9 n9 Qf (F0 m (pc + 3) ls ((r.map (ev g)).toList ++ rest))) : W p l e R s m args below meth c H locs k9 n9 Qf (F0 m pc ls st0) := by
  intro T hT X
  obtain ⟨v, st₀, t, T', L, h0, X', hL, e1, e2, ⟨r, M', hv, hq, hp, hz, hk⟩, st⟩ := hr T hT X
  cases hv
  rw [h0] at hz hk
  obtain ⟨t2, a1, b1⟩ := kk r M' T'.heap (locs ++ L) hq (by rw [e1]; exact hp)
    ⟨Nat.le_trans hS.1 (by rw [e1]; exact hz), fun q h1 h2 => by rw [e1, hk q (Nat.lt_of_lt_of_le h1 hS.1) h2]; exact hS.2.1 q h1 h2, fun q hq => by
      rcases List.mem_append.mp hq with h | h
      · exact hS.2.2 q h
      · exact hL q h⟩ T' rfl X'
  exact ⟨t2, st t2 a1, b1⟩
/-- what a call site shows of its callee -/
def Ck (y : MethodName) (cc : ByteArray) (nL : Nat) (ret : Option FieldType) (n d' : Nat) (R : Room) : Prop :=
  Cond.code y cc nL ret ∈ TT ∧ Cond.initialized y.cls ∈ TT ∧ (y.cls ≠ "java/lang/invoke/MethodHandle" ∧ y.cls ≠ "java/lang/invoke/VarHandle" ∧ (parseMethodDescriptor y.desc).map (fun d => d.parameters.length) = some n) ∧ d' + 1 ≤ R.frames ∧ 40 * d' + nL + 19 ≤ R.locals
theorem z_callv {ix n k : Nat} {y : MethodName} {cc' : ByteArray} {nL' d' : Nat} {ret' : Option FieldType} {T : PT} {RR : String} {T0 : u_T} {N : Nat} (C : Cx p s m args meth c cc nL own ret g) (hcl : vwCl[k]? = some (RR, T0, N)) (hk7 : k < 7) (hy : y.cls = RR) (hs : Ck y cc' nL' ret' n d' R) (hlink : Cond.methodLink own ix y ∈ TT) (him : Cond.instanceMethod y ∈ TT) (hse : Cond.selects RR y y ∈ TT) (h1 : k9 ≤ R.cells) (h2 : n9 ≤ R.slots) (hd : decode cc pc = .ok (.invokevirtual ix, 3)) (hM : Ct l g y cc' nL' ret' d' T) (kk : Sk p l e R s m args below meth c nL g k9 n9 Qf (pc + 3) K) :
    Sk p l e R s m args below meth c nL g k9 n9 Qf pc (i_callv g k n T K) := by
  subst hy
  intro lv st M H locs ls h hl hP hD hS
  unfold i_callv at h
  split at h
  · next q r hst =>
    obtain ⟨o1, o2, hc, hT⟩ := h
    obtain ⟨j, hj1, hj2⟩ := wsM_in (g := g) M o1
    have he : eE g M q = .inr (k, (List.range (nf k)).map (fun j => ev g (fv g M q j))) := by simp only [eE, o2]; rw [if_pos hk7]
    rw [he] at hj2
    refine zun_go (va_runV (g := F0 m pc ls (st.map (ev g))) (b := gad g q) (As := ((st.take n).reverse).map (ev g)) (rest := r.map (ev g)) ⟨C.1, C.2.1, C.2.2.1, C.2.2.2.1, C.2.2.2.2.1⟩ (hM _ _ _ hT) (cwV n C.2.2.2.2.1 (fun w hw => ?_) rfl rfl rfl ⟨rfl, hs.2.2.1⟩ ⟨hs.2.2.2.1, ?_⟩)
      ⟨cPc_blind g _ M, va_recv C.2.2.2.2.2.2.2.1 hP hcl hj2, fun U hU hW => ⟨rfl, by rw [hU]; exact hP, hD, va_K.moved hW.alike C.2.2.2.2.2.2.2.1, C.2.2.2.2.2.2.2.2.go (locs := locs) (by rw [hU]; exact hS) hW⟩⟩
      rfl (take_len hst) hl.1 (st_split hst) (lv_room (by rw [csum_ev]; exact hc)) hd ⟨h1, h2⟩) hS (fun v M' H1 locs1 hq hP1 hS1 => ?_)
    · rcases List.mem_append.mp hw with hw | hw
      · simp only [List.mem_cons, List.not_mem_nil, or_false] at hw
        rcases hw with rfl | rfl | rfl | rfl
        · exact TT_pay (ws := [_]) (fun w hw => by rw [List.mem_singleton.mp hw]; exact hlink) _ (List.mem_singleton.mpr rfl)
        · exact TT_pay (ws := [_]) (fun w hw => by rw [List.mem_singleton.mp hw]; exact him) _ (List.mem_singleton.mpr rfl)
        · exact TT_pay (ws := [_]) (fun w hw => by rw [List.mem_singleton.mp hw]; exact hse) _ (List.mem_singleton.mpr rfl)
        · exact TT_pay (ws := [_]) (fun w hw => by rw [List.mem_singleton.mp hw]; exact hs.2.1) _ (List.mem_singleton.mpr rfl)
      · exact cs_pay hs.1 w hw
    · have := hs.2.2.2.2
      show 8 + (nL' + 11) + 40 * d' ≤ R.locals
      omega
    · rw [opt_list]
      exact kk _ _ _ _ _ _ hq hl hP1 (wsM_D hD) hS1
  · exact h.elim
/-! the law's script: number 1002 -/
def i_scn (L : Nat) (K : PP) (lv : List (Nat × Value)) (st : List Value) (M : MM) : Prop := match st with | .ref q :: r => q = 1002 ∧ K lv (.int (nI L) :: r) M | _ => False
def i_scr (L : Nat) (xs : Nat → Int32) (K : PP) (lv : List (Nat × Value)) (st : List Value) (M : MM) : Prop := match st with | .int i :: .ref q :: r => q = 1002 ∧ vp_in i L ∧ ∀ z, z = xs i.toNatClampNeg → K lv (.int z :: r) M | _ => False
theorem z_scn {L : Nat} {xs : Nat → Int32} (C : Cx p s m args meth c cc nL own ret g) (hX : va_X (gad g 1002) L xs s s.heap) (hbl : gad g 1002 < s.heap.size) (hbA : ¬ gA g (gad g 1002)) (hd : decode cc pc = .ok (.arraylength, 1)) (kk : Sk p l e R s m args below meth c nL g k9 n9 Qf (pc + 1) K) : Sk p l e R s m args below meth c nL g k9 n9 Qf pc (i_scn L K) := by
  intro lv st M H locs ls h hl hP hD hS
  unfold i_scn at h
  split at h
  · next q r =>
    obtain ⟨rfl, h⟩ := h
    exact va_slen C.1 C.2.1 hX hbl hbA hS hd (kk _ _ _ _ _ _ h hl hP hD hS)
  · exact h.elim
theorem z_scr {L : Nat} {xs : Nat → Int32} (C : Cx p s m args meth c cc nL own ret g) (hX : va_X (gad g 1002) L xs s s.heap) (hbl : gad g 1002 < s.heap.size) (hbA : ¬ gA g (gad g 1002)) (hd : decode cc pc = .ok (.iaload, 1)) (kk : Sk p l e R s m args below meth c nL g k9 n9 Qf (pc + 1) K) : Sk p l e R s m args below meth c nL g k9 n9 Qf pc (i_scr L xs K) := by
  intro lv st M H locs ls h hl hP hD hS
  unfold i_scr at h
  split at h
  · next i q r =>
    obtain ⟨rfl, hin, h⟩ := h
    exact va_sld C.1 C.2.1 hX hbl hbA hS hin hd (kk _ _ _ _ _ _ (h _ rfl) hl hP hD hS)
  · exact h.elim
/-! from a maker's judgement to this one, and its end -/
theorem c_toK {g0 : WG} {A : Nat → Prop} {P : PP} {lv : List (Nat × Value)} {st : List Value} {M : MM} (hgD : gD g = gD g0) (hgA : gA g = A) (k : Sk p l e R s m args below meth c nL g k9 n9 Qf pc P) (h : P lv st M) : SC p l e R s m args below meth c nL g0 A Qf k9 n9 pc (evL g lv) (st.map (ev g)) (wsM g M) := by
  subst hgA
  exact fun H locs ls hl hP hD hS => k lv st M H locs ls h hl (by rw [hgD]; exact hP) hD hS
theorem z_retm {g0 : WG} {ws0 : va_W} {Q : va_W → Prop} (C : Cx p s m args meth c cc nL own none g) (hgD : gD g = gD g0) (hgA : gA g = va_A ws0 s.heap.size) (hd : decode cc pc = .ok (.return_, 1)) : Sk p l e R s m args below meth c nL g k9 n9 (MQ below (kQc g0 ws0 s.heap.size Q) args s k9 n9 (va_A ws0 s.heap.size)) pc (fun _ st M => st = [] ∧ Q (wsM g M)) := by
  intro lv st M H locs ls h hl hP hD hS
  obtain ⟨rfl, hq⟩ := h
  rw [hgA] at hD hS
  rw [hgD] at hP
  exact W.vret C.1 C.2.1 C.2.2.2.2.2.1 (fun t ht hW => ⟨⟨wsM g M, rfl, hq, by rw [ht]; exact hP, hD⟩, hS.F ht⟩) hS.2.2 hd C.2.2.2.2.2.2.1
end ROWK
