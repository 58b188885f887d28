/-! ===== objects that are being made: worlds in any order ===== -/
theorem vP_iff {D : va_G} {cl : List vw_C} {ws : va_W} {H : Heap} : va_P D cl ws H ↔ ∀ x, x ∈ ws → va_at D cl x H :=
  ⟨fun h x hx => by obtain ⟨k, hk⟩ := List.getElem?_of_mem hx; exact h k x hk, fun h k x hk => h x (List.mem_of_getElem? hk)⟩
theorem vP_perm {D : va_G} {cl : List vw_C} {ws ws' : va_W} {H : Heap} (h : va_P D cl ws H) (p : ws.Perm ws') : va_P D cl ws' H := vP_iff.mpr fun x hx => vP_iff.mp h x (p.mem_iff.mpr hx)
theorem vP_app {D : va_G} {cl : List vw_C} {w1 w2 : va_W} {H : Heap} : va_P D cl (w1 ++ w2) H ↔ va_P D cl w1 H ∧ va_P D cl w2 H :=
  ⟨fun h => ⟨vP_iff.mpr fun x hx => vP_iff.mp h x (List.mem_append_left _ hx), vP_iff.mpr fun x hx => vP_iff.mp h x (List.mem_append_right _ hx)⟩, fun h => h.1.app h.2⟩
theorem vD_cons {A : Nat → Prop} {x : Nat × va_E} {ws : va_W} : va_D A (x :: ws) ↔ (∀ y, y ∈ ws → x.1 ≠ y.1) ∧ A x.1 ∧ va_D A ws := by
  constructor
  · intro h
    refine ⟨fun y hy e => ?_, h.2 0 x rfl, fun i j p q hi hj e => ?_, fun k q hk => h.2 (k + 1) q (by simpa using hk)⟩
    · obtain ⟨k, hk⟩ := List.getElem?_of_mem hy
      have := h.1 0 (k + 1) x y rfl (by simpa using hk) e
      omega
    · have := h.1 (i + 1) (j + 1) p q (by simpa using hi) (by simpa using hj) e
      omega
  · rintro ⟨h1, h2, h3⟩
    refine ⟨fun i j p q hi hj e => ?_, fun k q hk => ?_⟩
    · cases i with
      | zero =>
        cases j with
        | zero => rfl
        | succ j =>
          simp only [List.getElem?_cons_zero, Option.some.injEq, List.getElem?_cons_succ] at hi hj
          subst hi
          exact absurd e (h1 q (List.mem_of_getElem? hj))
      | succ i =>
        cases j with
        | zero =>
          simp only [List.getElem?_cons_zero, Option.some.injEq, List.getElem?_cons_succ] at hi hj
          subst hj
          exact absurd e.symm (h1 p (List.mem_of_getElem? hi))
        | succ j =>
          simp only [List.getElem?_cons_succ] at hi hj
          rw [h3.1 i j p q hi hj e]
    · cases k with
      | zero =>
        simp only [List.getElem?_cons_zero, Option.some.injEq] at hk
        subst hk
        exact h2
      | succ k =>
        simp only [List.getElem?_cons_succ] at hk
        exact h3.2 k q hk
theorem vD_nil {A : Nat → Prop} : va_D A [] := ⟨fun i j p q h => by simp at h, fun k q h => by simp at h⟩
theorem vP_nil {D : va_G} {cl : List vw_C} {H : Heap} : va_P D cl [] H := fun k q h => by simp at h
theorem vD_perm {A : Nat → Prop} {ws ws' : va_W} (h : va_D A ws) (p : ws.Perm ws') : va_D A ws' := by
  induction p with
  | nil => exact h
  | cons x p ih =>
    obtain ⟨h1, h2, h3⟩ := vD_cons.mp h
    exact vD_cons.mpr ⟨fun y hy => h1 y (p.mem_iff.mpr hy), h2, ih h3⟩
  | swap x y l =>
    obtain ⟨h1, h2, h3⟩ := vD_cons.mp h
    obtain ⟨g1, g2, g3⟩ := vD_cons.mp h3
    refine vD_cons.mpr ⟨fun z hz => ?_, g2, vD_cons.mpr ⟨fun z hz => h1 z (List.mem_cons_of_mem _ hz), h2, g3⟩⟩
    rcases List.mem_cons.mp hz with hz | hz
    · rw [hz]; exact fun e => h1 x List.mem_cons_self e.symm
    · exact g1 z hz
  | trans p q ih1 ih2 => exact ih2 (ih1 h)
theorem vD_app {A : Nat → Prop} {w2 : va_W} : ∀ {w1 : va_W}, va_D A (w1 ++ w2) → va_D A w1 ∧ va_D A w2 ∧ ∀ x, x ∈ w1 → ∀ y, y ∈ w2 → x.1 ≠ y.1
  | [], h => ⟨vD_nil, h, fun x hx => by simp at hx⟩
  | x :: w1, h => by
    obtain ⟨h1, h2, h3⟩ := vD_cons.mp (show va_D A (x :: (w1 ++ w2)) from h)
    obtain ⟨g1, g2, g3⟩ := vD_app h3
    refine ⟨vD_cons.mpr ⟨fun y hy => h1 y (List.mem_append_left _ hy), h2, g1⟩, g2, fun z hz y hy => ?_⟩
    rcases List.mem_cons.mp hz with hz | hz
    · rw [hz]; exact h1 y (List.mem_append_right _ hy)
    · exact g3 z hz y hy
theorem vD_in {A : Nat → Prop} {ws : va_W} (h : va_D A ws) {x : Nat × va_E} (hx : x ∈ ws) : A x.1 := by
  obtain ⟨k, hk⟩ := List.getElem?_of_mem hx
  exact h.2 k x hk
theorem vA_in {ws : va_W} {sz : Nat} {x : Nat × va_E} (hx : x ∈ ws) : va_A ws sz x.1 := by
  obtain ⟨k, hk⟩ := List.getElem?_of_mem hx
  exact va_A.in hk
/-- only the addresses count -/
theorem vD_adr {A : Nat → Prop} {ws ws' : va_W} (h : va_D A ws) (e : ws.map Prod.fst = ws'.map Prod.fst) : va_D A ws' := by
  have key : ∀ (i : Nat) (p : Nat × va_E), ws'[i]? = some p → ∃ p0, ws[i]? = some p0 ∧ p0.1 = p.1 := by
    intro i p hi
    have h1 : (ws.map Prod.fst)[i]? = some p.1 := by rw [e, List.getElem?_map, hi]; rfl
    rw [List.getElem?_map] at h1
    cases h2 : ws[i]? with
    | none => rw [h2] at h1; cases h1
    | some p0 => rw [h2] at h1; exact ⟨p0, rfl, Option.some.inj h1⟩
  refine ⟨fun i j p q hi hj hpq => ?_, fun k q hk => ?_⟩
  · obtain ⟨p0, a1, a2⟩ := key i p hi
    obtain ⟨q0, b1, b2⟩ := key j q hj
    exact h.1 i j p0 q0 a1 b1 (by rw [a2, b2]; exact hpq)
  · obtain ⟨q0, b1, b2⟩ := key k q hk
    rw [← b2]
    exact h.2 k q0 b1
/-- behind a call on a part of a world: the rest is as it was -/
theorem w_join {D : va_G} {cl : List vw_C} {A : Nat → Prop} {wc wr w1 : va_W} {H H1 : Heap} (hP : va_P D cl (wc ++ wr) H) (hD : va_D A (wc ++ wr)) (hk : ∀ q : Nat, q < H.size → ¬ va_A wc H.size q → H1[q]? = H[q]?) (hF : ∀ q, va_A wc H.size q → A q) (hP1 : va_P D cl w1 H1) (hD1 : va_D (va_A wc H.size) w1) : va_P D cl (w1 ++ wr) H1 ∧ va_D A (w1 ++ wr) := by
  obtain ⟨d1, d2, d3⟩ := vD_app hD
  have no : ∀ x, x ∈ wr → ¬ va_A wc H.size x.1 := by
    rintro x hx (⟨k, e, hk⟩ | hk)
    · exact d3 (x.1, e) (List.mem_of_getElem? hk) x hx rfl
    · have := (vP_iff.mp hP x (List.mem_append_right _ hx)).lt
      omega
  refine ⟨vP_app.mpr ⟨hP1, vP_iff.mpr fun x hx => ?_⟩, va_D.app (hD1.weaken fun k q _ h => hF q.1 h) d2 fun i j p q hi hj e => ?_⟩
  · have hx' := vP_iff.mp hP x (List.mem_append_right _ hx)
    exact hx'.kept (hk x.1 hx'.lt (no x hx))
  · exact no q (List.mem_of_getElem? hj) (by rw [← e]; exact hD1.2 i p hi)
theorem lg_r {ls : Array Slot} {nL i : Nat} {lv : List (Nat × Value)} {v : Value} (h : lv_has ls nL lv) (hv : lg lv i = some v) : ls[i]? = some (.val v) := by
  have key : ∀ l : List (Nat × Value), lg l i = some v → (i, v) ∈ l := by
    intro l
    induction l with
    | nil => intro h; cases h
    | cons q t ih =>
      obtain ⟨k, w⟩ := q
      intro h
      simp only [lg] at h
      cases hk : k == i with
      | true => rw [hk] at h; cases h; rw [beq_iff_eq] at hk; subst hk; exact List.mem_cons_self
      | false => rw [hk] at h; exact List.mem_cons_of_mem _ (ih h)
  exact h.2.2 (i, v) (key lv hv)
theorem lset_r {ls : Array Slot} {nL i : Nat} {v : Value} {lv : List (Nat × Value)} (h : lv_has ls nL ((i, v) :: lv.filter (fun q => !(q.1 == i) && !(q.1 + 1 == i && q.2.category == 2)))) : lv_has ls nL (lset lv i v) := by
  refine lv_mono h fun q hq => ?_
  rcases mem_lins hq with hr | hr
  · subst hr; exact List.mem_cons_self
  · obtain ⟨h1, h2, h3⟩ := mem_ldel hr
    refine List.mem_cons_of_mem _ (List.mem_filter.mpr ⟨h1, ?_⟩)
    simp [h2]
    exact Decidable.not_and_iff_not_or_not.mp h3
/-! a world inside of another -/
def Sub (g1 g : WG) : Prop := gD g1 = gD g ∧ gC g1 = gC g ∧ (∀ q, 200 ≤ q → gad g1 q = gad g q) ∧ ∀ q, gA g1 q → gA g q
theorem gtys_sub {g1 g : WG} (h : Sub g1 g) : gtys g1 = gtys g := by unfold gtys; rw [h.2.1]
theorem Ext.sub {g1 g : WG} {U : State} (h : Sub g1 g) (E : Ext g U) : Ext g1 U := by
  obtain ⟨-, -, ha, hA⟩ := h
  obtain ⟨e1, e2, e3, e4, e5, e6, e7⟩ := E
  refine ⟨?_, ?_, ?_, fun i x hx => ?_, e5.narrow hA, ?_, e7⟩
  · rw [ha 1000 (by omega)]; exact e1.narrow hA
  · rw [ha 1000 (by omega)]; exact e2.narrow hA
  · rw [show (fun i => gad g1 (200 + i)) = fun i => gad g (200 + i) from funext fun i => ha _ (by omega), show (fun i => gad g1 (300 + i)) = fun i => gad g (300 + i) from funext fun i => ha _ (by omega)]
    exact e3.narrow hA
  · rw [ha _ (by omega)]; exact e4 i x hx
  · unfold fmtE at e6 ⊢
    rw [ha 1001 (by omega), ha 1003 (by omega)]; exact e6.narrow hA
/-- the words outside of the tables that a maker needs -/
def AOs (U : State) : Prop := va_AO RX1 U ∧ va_AO RX2 U ∧ va_AO RX4 U
theorem AOs.moved {u U : State} (hvm : u.vm.Alike U.vm) (h : AOs u) : AOs U := ⟨h.1.moved hvm, h.2.1.moved hvm, h.2.2.moved hvm⟩
theorem oi_im : Cond.instanceMethod ⟨"java/lang/Object", "<init>", "()V"⟩ ∈ TT := tmem 123 (by decide +kernel) (by decide +kernel)
theorem oi_co : Cond.code ⟨"java/lang/Object", "<init>", "()V"⟩ object_method_1_code 1 (Option.none : Option FieldType) ∈ TT := tmem 124 (by decide +kernel) (by decide +kernel)
theorem ac_int : Cond.arrayClass FieldType.int ∈ TT := tmem 161 (by decide +kernel) (by decide +kernel)
theorem ac_boo : Cond.arrayClass FieldType.boolean ∈ TT := tmem 958 (by decide +kernel) (by decide +kernel)
/-! ===== one judgement of a maker's body ===== -/
def SC (p : Program) (l : Launch) (e : Env) (R : Room) (s : State) (m : MethodId) (args : Array Value) (below : List Frame) (meth : Method) (c : Code) (nL : Nat) (g : WG) (A : Nat → Prop) (Qf : State → Prop) (ck cs pc : Nat) (lv : List (Nat × Value)) (st : List Value) (ws : va_W) : Prop :=
  ∀ (H : Heap) (locs : List Loc) (ls : Array Slot), lv_has ls nL lv → va_P (gD g) vwCl ws H → va_D A ws → va_S A s.heap H locs → W p l e R s m args below meth c H locs ck cs Qf (F0 m pc ls st)
section MAKE
variable {p : Program} {l : Launch} {e : Env} {R : Room} {s : State} {m : MethodId} {args : Array Value} {below : List Frame} {meth : Method} {c : Code}
variable {cc : ByteArray} {nL : Nat} {own : String} {ret : Option FieldType} {g : WG} {A : Nat → Prop} {Qf : State → Prop} {pc ck cs : Nat} {lv : List (Nat × Value)} {st : List Value} {ws : va_W}
theorem c_perm (ws' : va_W) (h : ws.Perm ws') (k : SC p l e R s m args below meth c nL g A Qf ck cs pc lv st ws') : SC p l e R s m args below meth c nL g A Qf ck cs pc lv st ws := fun H locs ls hl hP hD hS => k H locs ls hl (vP_perm hP h) (vD_perm hD h) hS
theorem c_widen {k n : Nat} (h1 : ck ≤ k) (h2 : cs ≤ n) (kk : SC p l e R s m args below meth c nL g A Qf k n pc lv st ws) : SC p l e R s m args below meth c nL g A Qf ck cs pc lv st ws := fun H locs ls hl hP hD hS => W.widen h1 h2 (kk H locs ls hl hP hD hS)
theorem c_ws (ws' : va_W) (e1 : ∀ D H, va_P D vwCl ws H → va_P D vwCl ws' H) (e2 : ws.map Prod.fst = ws'.map Prod.fst) (k : SC p l e R s m args below meth c nL g A Qf ck cs pc lv st ws') : SC p l e R s m args below meth c nL g A Qf ck cs pc lv st ws := fun H locs ls hl hP hD hS => k H locs ls hl (e1 _ _ hP) (vD_adr hD e2) hS
theorem c_aload (C : Cx p s m args meth c cc nL own ret g) {f : Fin 4} (i : Nat) {x : Nat} (hd : decode cc pc = .ok (.aload_n f, 1)) (hi : (f : Nat) = i) (hv : lg lv i = some (.ref x)) (k : SC p l e R s m args below meth c nL g A Qf ck cs (pc + 1) lv (.ref x :: st) ws) : SC p l e R s m args below meth c nL g A Qf ck cs pc lv st ws :=
  fun H locs ls hl hP hD hS => lv_aload_n C.1 C.2.1 hd hi (lg_r hl hv) (k H locs ls hl hP hD hS)
theorem c_iload (C : Cx p s m args meth c cc nL own ret g) {f : Fin 4} (i : Nat) {x : Int32} (hd : decode cc pc = .ok (.iload_n f, 1)) (hi : (f : Nat) = i) (hv : lg lv i = some (.int x)) (k : SC p l e R s m args below meth c nL g A Qf ck cs (pc + 1) lv (.int x :: st) ws) : SC p l e R s m args below meth c nL g A Qf ck cs pc lv st ws :=
  fun H locs ls hl hP hD hS => lv_iload_n C.1 C.2.1 hd hi (lg_r hl hv) (k H locs ls hl hP hD hS)
theorem c_istore (C : Cx p s m args meth c cc nL own ret g) {f : Fin 4} (i : Nat) {x : Int32} (lv' : List (Nat × Value)) (hd : decode cc pc = .ok (.istore_n f, 1)) (hi : (f : Nat) = i) (hn : i < nL) (hv : lset lv i (.int x) = lv') (k : SC p l e R s m args below meth c nL g A Qf ck cs (pc + 1) lv' st ws) : SC p l e R s m args below meth c nL g A Qf ck cs pc lv (.int x :: st) ws := by
  subst hv
  exact fun H locs ls hl hP hD hS => lv_istore_n C.1 C.2.1 hd hi hl hn rfl (fun ls' hl' => k H locs ls' (lset_r hl') hP hD hS)
theorem c_iinc (C : Cx p s m args meth c cc nL own ret g) {i : Nat} {n : Int} {x v : Int32} (j : Nat) (lv' : List (Nat × Value)) (hd : decode cc pc = .ok (.iinc i n, 3)) (hj : lv[j]? = some (i, .int x)) (hv : x + Int32.ofInt n = v) (hn : i < nL) (hl' : lset lv i (.int v) = lv') (k : SC p l e R s m args below meth c nL g A Qf ck cs (pc + 3) lv' st ws) : SC p l e R s m args below meth c nL g A Qf ck cs pc lv st ws := by
  subst hl'
  exact fun H locs ls hl hP hD hS => lv_iinc C.1 C.2.1 hd hl hj hv hn rfl (fun ls' hl' => k H locs ls' (lset_r hl') hP hD hS)
theorem c_iconst (C : Cx p s m args meth c cc nL own ret g) {n : Int} (v : Int32) (hd : decode cc pc = .ok (.iconst n, 1)) (hv : Int32.ofInt n = v) (k : SC p l e R s m args below meth c nL g A Qf ck cs (pc + 1) lv (.int v :: st) ws) : SC p l e R s m args below meth c nL g A Qf ck cs pc lv st ws :=
  fun H locs ls hl hP hD hS => lv_iconst C.1 C.2.1 hd hv (k H locs ls hl hP hD hS)
theorem c_bipush (C : Cx p s m args meth c cc nL own ret g) {n : Int} (v : Int32) (hd : decode cc pc = .ok (.bipush n, 2)) (hv : (Int8.ofInt n).toInt32 = v) (k : SC p l e R s m args below meth c nL g A Qf ck cs (pc + 2) lv (.int v :: st) ws) : SC p l e R s m args below meth c nL g A Qf ck cs pc lv st ws :=
  fun H locs ls hl hP hD hS => lv_bipush C.1 C.2.1 hd hv (k H locs ls hl hP hD hS)
theorem c_sipush (C : Cx p s m args meth c cc nL own ret g) {n : Int} (v : Int32) (hd : decode cc pc = .ok (.sipush n, 3)) (hv : (Int16.ofInt n).toInt32 = v) (k : SC p l e R s m args below meth c nL g A Qf ck cs (pc + 3) lv (.int v :: st) ws) : SC p l e R s m args below meth c nL g A Qf ck cs pc lv st ws :=
  fun H locs ls hl hP hD hS => lv_sipush C.1 C.2.1 hd hv (k H locs ls hl hP hD hS)
theorem c_icmp_ge (C : Cx p s m args meth c cc nL own ret g) {x y : Int32} {off : Int} {tgt : Nat} (hd : decode cc pc = .ok (.if_icmp .ge off, 3)) (ht : (pc : Int) + off = (tgt : Int)) (kt : y ≤ x → SC p l e R s m args below meth c nL g A Qf ck cs tgt lv st ws) (kf : ¬ y ≤ x → SC p l e R s m args below meth c nL g A Qf ck cs (pc + 3) lv st ws) : SC p l e R s m args below meth c nL g A Qf ck cs pc lv (.int y :: .int x :: st) ws :=
  fun H locs ls hl hP hD hS => lv_icmp_ge C.1 C.2.1 hd ht (fun q => kt q H locs ls hl hP hD hS) (fun q => kf q H locs ls hl hP hD hS)
theorem c_goto (C : Cx p s m args meth c cc nL own ret g) {off : Int} {tgt : Nat} (hd : decode cc pc = .ok (.goto off, 3)) (ht : (pc : Int) + off = (tgt : Int)) (k : SC p l e R s m args below meth c nL g A Qf ck cs tgt lv st ws) : SC p l e R s m args below meth c nL g A Qf ck cs pc lv st ws :=
  fun H locs ls hl hP hD hS => lv_goto C.1 C.2.1 hd ht (k H locs ls hl hP hD hS)
theorem c_dup (C : Cx p s m args meth c cc nL own ret g) {x : Nat} (hd : decode cc pc = .ok (.dup, 1)) (k : SC p l e R s m args below meth c nL g A Qf ck cs (pc + 1) lv (.ref x :: .ref x :: st) ws) : SC p l e R s m args below meth c nL g A Qf ck cs pc lv (.ref x :: st) ws :=
  fun H locs ls hl hP hD hS => lv_dup C.1 C.2.1 hd rfl (k H locs ls hl hP hD hS)
theorem c_pop (C : Cx p s m args meth c cc nL own ret g) {x : Int32} (hd : decode cc pc = .ok (.pop, 1)) (k : SC p l e R s m args below meth c nL g A Qf ck cs (pc + 1) lv st ws) : SC p l e R s m args below meth c nL g A Qf ck cs pc lv (.int x :: st) ws :=
  fun H locs ls hl hP hD hS => lv_pop C.1 C.2.1 hd rfl (k H locs ls hl hP hD hS)
theorem c_astore (C : Cx p s m args meth c cc nL own ret g) {f : Fin 4} (i : Nat) {x : Nat} (lv' : List (Nat × Value)) (hd : decode cc pc = .ok (.astore_n f, 1)) (hi : (f : Nat) = i) (hn : i < nL) (hv : lset lv i (.ref x) = lv') (k : SC p l e R s m args below meth c nL g A Qf ck cs (pc + 1) lv' st ws) : SC p l e R s m args below meth c nL g A Qf ck cs pc lv (.ref x :: st) ws := by
  subst hv
  exact fun H locs ls hl hP hD hS => lv_astore_n C.1 C.2.1 hd hi hl hn rfl (fun ls' hl' => k H locs ls' (lset_r hl') hP hD hS)
theorem c_obj (C : Cx p s m args meth c cc nL own ret g) {ix : Nat} {x : Nat} (hlink : Cond.methodLink own ix ⟨"java/lang/Object", "<init>", "()V"⟩ ∈ TT) (h1 : 1 ≤ R.frames) (h2 : 20 ≤ R.locals) (hc : csum st ≤ 8) (hd : decode cc pc = .ok (.invokespecial ix, 3)) (k : SC p l e R s m args below meth c nL g A Qf ck cs (pc + 3) lv st ws) : SC p l e R s m args below meth c nL g A Qf ck cs pc lv (.ref x :: st) ws := by
  intro H locs ls hl hP hD hS
  refine W.objInit C.1 C.2.1 C.2.2.2.1 (C.2.2.2.2.1 _ hlink) (C.2.2.2.2.1 _ oi_im) (C.2.2.2.2.1 _ oi_co) rfl (hl.1.trans C.2.2.1.symm) rfl hd h1 ?_ (k H locs ls hl hP hD hS)
  have := lv_room (m := m) (pc := pc) (ls := ls) (rest := .ref x :: st) hc
  omega
theorem gc_int {cA : ClassId} (h : va_K (gD g) vwCl (gtys g ++ [(cA, .int)]) s) : cA = gC g 0 := by
  have a : s.vm.findClass ("[" ++ (FieldType.int).toString) = some cA := (h.2 5 _ rfl).2
  have b : s.vm.findClass ("[" ++ (FieldType.int).toString) = some (gC g 0) := (h.2 0 _ rfl).2
  exact Option.some.inj (a.symm.trans b)
theorem gc_boo {cA : ClassId} (h : va_K (gD g) vwCl (gtys g ++ [(cA, .boolean)]) s) : cA = gC g 1 := by
  have a : s.vm.findClass ("[" ++ (FieldType.boolean).toString) = some cA := (h.2 5 _ rfl).2
  have b : s.vm.findClass ("[" ++ (FieldType.boolean).toString) = some (gC g 1) := (h.2 1 _ rfl).2
  exact Option.some.inj (a.symm.trans b)
theorem gc_ref {cA : ClassId} {t : Nat} {CN : String} (ht : (gtys g)[t]? = some (gC g t, .object CN)) (h : va_K (gD g) vwCl (gtys g ++ [(cA, .object CN)]) s) : cA = gC g t := by
  obtain ⟨-, -, -, -, -, a⟩ := (h.2 5 (cA, .object CN) rfl).2
  obtain ⟨-, -, -, -, -, b⟩ := (h.2 t (gC g t, .object CN) (by rw [List.getElem?_append_left]; exact ht; exact (List.getElem?_eq_some_iff.mp ht).1)).2
  exact Option.some.inj (a.symm.trans b)
theorem c_newi (C : Cx p s m args meth c cc nL own ret g) (hA : ∀ q, s.heap.size ≤ q → A q) (N : Nat) {v : Int32} (hd : decode cc pc = .ok (.newarray .int, 2)) (hn : ¬ v < 0) (hN : v.toNatClampNeg = N) (hb : N ≤ 10000) (h1 : ck + 1 ≤ R.cells) (h2 : cs + N ≤ R.slots) (k : ∀ q, SC p l e R s m args below meth c nL g A Qf (ck + 1) (cs + N) (pc + 2) lv (.ref q :: st) ((q, .inl (gC g 0, N, .inl fun _ => 0)) :: ws)) : SC p l e R s m args below meth c nL g A Qf ck cs pc lv (.int v :: st) ws := by
  intro H locs ls hl hP hD hS
  refine va_newa (atype := .int) (ty := .int) (a0 := (N, .inl fun _ => 0)) C.1 C.2.1 (C.2.2.2.2.1 _ ac_int) rfl C.2.2.2.2.2.2.2.1 hP hD hS hA (fun _ => rfl) hn hN ?_ h1 h2 hd (fun q cA H1 hK hP hD hS => ?_)
  · have : componentBytes .int ≤ 8 := by decide
    calc N * componentBytes .int ≤ 10000 * 8 := Nat.mul_le_mul hb this
      _ ≤ 536870912 := by decide
  · have e := gc_int hK
    subst e
    exact k q H1 locs ls hl (vP_perm hP (List.perm_append_singleton _ _)) (vD_perm hD (List.perm_append_singleton _ _)) hS
theorem c_newz (C : Cx p s m args meth c cc nL own ret g) (hA : ∀ q, s.heap.size ≤ q → A q) (N : Nat) {v : Int32} (hd : decode cc pc = .ok (.newarray .boolean, 2)) (hn : ¬ v < 0) (hN : v.toNatClampNeg = N) (hb : N ≤ 10000) (h1 : ck + 1 ≤ R.cells) (h2 : cs + N ≤ R.slots) (k : ∀ q, SC p l e R s m args below meth c nL g A Qf (ck + 1) (cs + N) (pc + 2) lv (.ref q :: st) ((q, .inl (gC g 1, N, .inl fun _ => 0)) :: ws)) : SC p l e R s m args below meth c nL g A Qf ck cs pc lv (.int v :: st) ws := by
  intro H locs ls hl hP hD hS
  refine va_newa (atype := .boolean) (ty := .boolean) (a0 := (N, .inl fun _ => 0)) C.1 C.2.1 (C.2.2.2.2.1 _ ac_boo) rfl C.2.2.2.2.2.2.2.1 hP hD hS hA (fun _ => rfl) hn hN ?_ h1 h2 hd (fun q cA H1 hK hP hD hS => ?_)
  · have : componentBytes .boolean ≤ 8 := by decide
    calc N * componentBytes .boolean ≤ 10000 * 8 := Nat.mul_le_mul hb this
      _ ≤ 536870912 := by decide
  · have e := gc_boo hK
    subst e
    exact k q H1 locs ls hl (vP_perm hP (List.perm_append_singleton _ _)) (vD_perm hD (List.perm_append_singleton _ _)) hS
theorem c_newq (C : Cx p s m args meth c cc nL own ret g) (hA : ∀ q, s.heap.size ≤ q → A q) (t N : Nat) {CN : String} {ix : Nat} {v : Int32} (ht : (gtys g)[t]? = some (gC g t, .object CN)) (hlink : Cond.classLink own ix CN ∈ TT) (hO : va_AO CN s) (hd : decode cc pc = .ok (.anewarray ix, 3)) (hn : ¬ v < 0) (hN : v.toNatClampNeg = N) (hb : N ≤ 10000) (h1 : ck + 1 ≤ R.cells) (h2 : cs + N ≤ R.slots) (k : ∀ q, SC p l e R s m args below meth c nL g A Qf (ck + 1) (cs + N) (pc + 3) lv (.ref q :: st) ((q, .inl (gC g t, N, .inr (.inr (.inr (.inr (fun _ => none)))))) :: ws)) : SC p l e R s m args below meth c nL g A Qf ck cs pc lv (.int v :: st) ws := by
  intro H locs ls hl hP hD hS
  refine va_newq C.1 C.2.1 C.2.2.2.1 (C.2.2.2.2.1 _ hlink) hO C.2.2.2.2.2.2.2.1 hP hD hS hA hn hN (by omega) h1 h2 hd (fun q cA H1 hK hP hD hS => ?_)
  have e := gc_ref ht hK
  subst e
  exact k q H1 locs ls hl (vP_perm hP (List.perm_append_singleton _ _)) (vD_perm hD (List.perm_append_singleton _ _)) hS
theorem c_new (C : Cx p s m args meth c cc nL own ret g) (hA : ∀ q, s.heap.size ≤ q → A q) {ci N ix : Nat} {CN : String} {T : u_T} (fs : List Value) (hcl : vwCl[ci]? = some (CN, T, N)) (hin : ∀ w ∈ u_ws CN T N, w ∈ TT) (ty : Nat → FieldType) (hty : ∀ k, k < N → parseFieldDescriptor (T k).2.2.1 = some (ty k)) (hlink : Cond.classLink own ix CN ∈ TT) (hins : Cond.instantiable CN N ∈ TT) (hini : Cond.initialized CN ∈ TT) (hfs : ∀ j, j < N → defaultValue (ty j) = vp_V fs j) (hd : decode cc pc = .ok (.new ix, 3)) (h1 : ck + 1 ≤ R.cells) (h2 : cs + N ≤ R.slots) (k : ∀ q, SC p l e R s m args below meth c nL g A Qf (ck + 1) (cs + N) (pc + 3) lv (.ref q :: st) ((q, .inr (ci, fs)) :: ws)) : SC p l e R s m args below meth c nL g A Qf ck cs pc lv st ws := by
  intro H locs ls hl hP hD hS
  refine va_new C.1 C.2.1 C.2.2.2.2.1 hin ty hty C.2.2.2.1 (C.2.2.2.2.1 _ hlink) (C.2.2.2.2.1 _ hins) (C.2.2.2.2.1 _ hini) C.2.2.2.2.2.2.2.1 hP hD hS hA hcl hfs h1 h2 hd (fun q H1 hP hD hS => ?_)
  exact k q H1 locs ls hl (vP_perm hP (List.perm_append_singleton _ _)) (vD_perm hD (List.perm_append_singleton _ _)) hS
theorem c_putF (C : Cx p s m args meth c cc nL own ret g) (hI : meth.name = "<init>") {ci N ix a : Nat} {ref CN : String} {T : u_T} {fs : List Value} {v : Value} (q0 k : Nat) (ws' : va_W) (hcl : vwCl[ci]? = some (CN, T, N)) (hin : ∀ w ∈ u_ws CN T N, w ∈ TT) (ty0 : Nat → FieldType) (hty : ∀ k, k < N → parseFieldDescriptor (T k).2.2.1 = some (ty0 k)) (hnm : ∀ a, a < N → ∀ b, b < N → a ≠ b → (T a).2.1 ≠ (T b).2.1) (he : ws[q0]? = some (a, .inr (ci, fs))) (hk : k < N) (hw : Cond.fieldLink own ix ref (T k).2.1 (T k).2.2.1 ∈ TT) (hsame : (T k).1 = ref) (hfin : (T k).2.2.2 = true) (hdecl : (T k).1 = own) {ty : FieldType} (hd2 : parseFieldDescriptor (T k).2.2.1 = some ty) (hnar : narrow ty v = v) (hfit : fits ty v = true) (hlen : k < fs.length) (hws : ws.set q0 (a, .inr (ci, fs.set k v)) = ws') (hd : decode cc pc = .ok (.putfield ix, 3)) (kk : SC p l e R s m args below meth c nL g A Qf ck cs (pc + 3) lv st ws') : SC p l e R s m args below meth c nL g A Qf ck cs pc lv (v :: .ref a :: st) ws := by
  subst hws
  intro H locs ls hl hP hD hS
  exact va_putF C.1 C.2.1 C.2.2.2.2.1 hin ty0 hty hnm C.2.2.2.1 C.2.2.2.2.2.2.2.1 hP hD hS q0 he hcl k hk (C.2.2.2.2.1 _ hw) (fun x hx => by rw [← hsame]; exact hx) hfin hI hdecl hd2 hnar hfit hlen hd (fun H1 locs1 hP hD hS => kk H1 locs1 ls hl hP hD hS)
theorem c_put (C : Cx p s m args meth c cc nL own ret g) {ci N ix a : Nat} {ref CN : String} {T : u_T} {fs : List Value} {v : Value} (q0 k : Nat) (ws' : va_W) (hcl : vwCl[ci]? = some (CN, T, N)) (hin : ∀ w ∈ u_ws CN T N, w ∈ TT) (ty0 : Nat → FieldType) (hty : ∀ k, k < N → parseFieldDescriptor (T k).2.2.1 = some (ty0 k)) (hnm : ∀ a, a < N → ∀ b, b < N → a ≠ b → (T a).2.1 ≠ (T b).2.1) (he : ws[q0]? = some (a, .inr (ci, fs))) (hk : k < N) (hw : Cond.fieldLink own ix ref (T k).2.1 (T k).2.2.1 ∈ TT) (hsame : (T k).1 = ref) (hfin : (T k).2.2.2 = false) {ty : FieldType} (hd2 : parseFieldDescriptor (T k).2.2.1 = some ty) (hnar : narrow ty v = v) (hfit : fits ty v = true) (hlen : k < fs.length) (hws : ws.set q0 (a, .inr (ci, fs.set k v)) = ws') (hd : decode cc pc = .ok (.putfield ix, 3)) (kk : SC p l e R s m args below meth c nL g A Qf ck cs (pc + 3) lv st ws') : SC p l e R s m args below meth c nL g A Qf ck cs pc lv (v :: .ref a :: st) ws := by
  subst hws
  intro H locs ls hl hP hD hS
  exact va_put C.1 C.2.1 C.2.2.2.2.1 hin ty0 hty hnm C.2.2.2.1 C.2.2.2.2.2.2.2.1 hP hD hS q0 he hcl k hk (C.2.2.2.2.1 _ hw) (fun x hx => by rw [← hsame]; exact hx) hfin hd2 hnar hfit hlen hd (fun H1 locs1 hP hD hS => kk H1 locs1 ls hl hP hD hS)
theorem c_get (C : Cx p s m args meth c cc nL own ret g) {ci N ix a : Nat} {ref CN : String} {T : u_T} {fs : List Value} (v : Value) (q0 k : Nat) (hcl : vwCl[ci]? = some (CN, T, N)) (hin : ∀ w ∈ u_ws CN T N, w ∈ TT) (he : ws[q0]? = some (a, .inr (ci, fs))) (hk : k < N) (hw : Cond.fieldLink own ix ref (T k).2.1 (T k).2.2.1 ∈ TT) (hsame : (T k).1 = ref) (hv : fs[k]? = some v) (hd : decode cc pc = .ok (.getfield ix, 3)) (kk : SC p l e R s m args below meth c nL g A Qf ck cs (pc + 3) lv (v :: st) ws) : SC p l e R s m args below meth c nL g A Qf ck cs pc lv (.ref a :: st) ws := by
  intro H locs ls hl hP hD hS
  exact va_get C.1 C.2.1 C.2.2.2.2.1 hin C.2.2.2.1 C.2.2.2.2.2.2.2.1 hP q0 he hcl k hk (C.2.2.2.2.1 _ hw) (fun x hx => by rw [← hsame]; exact hx) hv hd (kk H locs ls hl hP hD hS)
theorem c_aast (C : Cx p s m args meth c cc nL own ret g) {ci n a v t : Nat} {x : vw_C} {vs : List Value} {f : Nat → Option Nat} {i : Int32} (q0 qk : Nat) (ws' : va_W) (ha : ws[q0]? = some (a, .inl (gC g t, n, .inr (.inr (.inr (.inr f)))))) (ht : (gtys g)[t]? = some (gC g t, .object x.1)) (hv : ws[qk]? = some (v, .inr (ci, vs))) (hc : vwCl[ci]? = some x) (hin : vp_in i n) (hws : ws.set q0 (a, .inl (gC g t, n, .inr (.inr (.inr (.inr (va_up f i.toNatClampNeg (some v))))))) = ws') (hd : decode cc pc = .ok (.aastore, 1)) (kk : SC p l e R s m args below meth c nL g A Qf ck cs (pc + 1) lv st ws') : SC p l e R s m args below meth c nL g A Qf ck cs pc lv (.ref v :: .int i :: .ref a :: st) ws := by
  subst hws
  intro H locs ls hl hP hD hS
  exact va_astq C.1 C.2.1 C.2.2.2.2.2.2.2.1 hP hD hS q0 t qk ci ha ht hv hc hin hd (fun H1 locs1 hP hD hS => kk H1 locs1 ls hl hP hD hS)
theorem c_aald (C : Cx p s m args meth c cc nL own ret g) {n a t : Nat} {CN : String} {f : Nat → Option Nat} {i : Int32} (r : Nat) (q0 : Nat) (ha : ws[q0]? = some (a, .inl (gC g t, n, .inr (.inr (.inr (.inr f)))))) (ht : (gtys g)[t]? = some (gC g t, .object CN)) (hin : vp_in i n) (hf : f i.toNatClampNeg = some r) (hd : decode cc pc = .ok (.aaload, 1)) (kk : SC p l e R s m args below meth c nL g A Qf ck cs (pc + 1) lv (.ref r :: st) ws) : SC p l e R s m args below meth c nL g A Qf ck cs pc lv (.int i :: .ref a :: st) ws := by
  intro H locs ls hl hP hD hS
  refine va_aldq C.1 C.2.1 C.2.2.2.2.2.2.2.1 hP q0 t ha ht hin hd ?_
  rw [hf]
  exact kk H locs ls hl hP hD hS
theorem c_alen (C : Cx p s m args meth c cc nL own ret g) {a t : Nat} {xx : vp_A} {ty : FieldType} {v : Int32} (q0 : Nat) (ha : ws[q0]? = some (a, .inl (gC g t, xx))) (ht : (gtys g)[t]? = some (gC g t, ty)) (hv : Int32.ofNat xx.1 = v) (hd : decode cc pc = .ok (.arraylength, 1)) (kk : SC p l e R s m args below meth c nL g A Qf ck cs (pc + 1) lv (.int v :: st) ws) : SC p l e R s m args below meth c nL g A Qf ck cs pc lv (.ref a :: st) ws :=
  fun H locs ls hl hP hD hS => va_alen C.1 C.2.1 C.2.2.2.2.2.2.2.1 hP q0 t ha ht hv hd (kk H locs ls hl hP hD hS)
theorem c_ldcs (C : Cx p s m args meth c cc nL own ret g) {ix : Nat} {tx : String} (i : Nat) (hk : kS[i]? = some (own, ix, tx)) (hd : decode cc pc = .ok (.ldc ix, 2)) (kk : SC p l e R s m args below meth c nL g A Qf ck cs (pc + 2) lv (.ref (gad g (200 + i)) :: st) ws) : SC p l e R s m args below meth c nL g A Qf ck cs pc lv st ws :=
  fun H locs ls hl hP hD hS => va_ldcS C.1 C.2.1 C.2.2.2.1 (C.2.2.2.2.2.2.2.2.2.2.2.1 i _ hk) hd (kk H locs ls hl hP hD hS)
/-! makers' contracts -/
def rmK (d k n : Nat) : Room := { frames := d, cells := k, slots := n, locals := 40 * d }
abbrev KT : Type := List Value → va_W → (va_W → Prop) → Prop
def kPc (g : WG) (as : List Value) (ws : va_W) (sz : Nat) : Array Value → State → Prop := fun v U => v = as.toArray ∧ U.heap.size = sz ∧ va_P (gD g) vwCl ws U.heap ∧ va_D (fun _ => True) ws ∧ va_K (gD g) vwCl (gtys g) U ∧ Ext g U ∧ AOs U
def kQc (g : WG) (ws : va_W) (sz : Nat) (Q : va_W → Prop) : Array Value → State → Outcome → State → Prop := fun _ st o t => (∃ ws' : va_W, o = .returned none ∧ Q ws' ∧ va_P (gD g) vwCl ws' t.heap ∧ va_D (va_A ws sz) ws') ∧ va_F (va_A ws sz) st t
def Ki (l : Launch) (g : WG) (y : MethodName) (cc : ByteArray) (nL d k n : Nat) (X : KT) : Prop :=
  ∀ (as : List Value) (ws : va_W) (Q : va_W → Prop) (sz : Nat), X as ws Q → (∀ q, va_A ws sz q → gA g q) → Met l y (.code y cc nL none :: TT) (rmK d k n) (kPc g as ws sz) (kQc g ws sz Q) k n (va_A ws sz)
theorem kPc_blind (g : WG) (as : List Value) (ws : va_W) (sz : Nat) : FrameBlind (kPc g as ws sz) := fun a U f mk q => ⟨q.1, q.2.1, q.2.2.1, q.2.2.2.1, va_K.moved (u := U) (U := U.calling f mk a) (Vm.Alike.refl U.vm) q.2.2.2.2.1, Ext.blind f mk a q.2.2.2.2.2.1, AOs.moved (u := U) (U := U.calling f mk a) (Vm.Alike.refl U.vm) q.2.2.2.2.2.2⟩
theorem vS_mono {A B : Nat → Prop} {H0 H : Heap} {locs : List Loc} (h : va_S A H0 H locs) (hAB : ∀ q, A q → B q) : va_S B H0 H locs := ⟨h.1, fun q h1 h2 => h.2.1 q h1 (fun z => h2 (hAB q z)), fun x hx => hAB _ (h.2.2 x hx)⟩
theorem mk_go {k' n' : Nat} {Q' : va_W → Prop} {wc wr : va_W} {st0 : List Value} {a : Array Value} {H : Heap} {locs : List Loc} {ls : Array Slot} (hA : ∀ q, s.heap.size ≤ q → A q) (hr : va_Run p l e R s m args below meth c H locs ck cs k' n' (F0 m pc ls st0) st (kQc g wc H.size Q' a) (va_A wc H.size)) (hl : lv_has ls nL lv) (hP : va_P (gD g) vwCl (wc ++ wr) H) (hD : va_D A (wc ++ wr)) (hS : va_S A s.heap H locs) (kk : ∀ w1, Q' w1 → SC p l e R s m args below meth c nL g A Qf (ck + k') (cs + n') (pc + 3) lv st (w1 ++ wr)) : W p l e R s m args below meth c H locs ck cs Qf (F0 m pc ls st0) := by
  have hF : ∀ q, va_A wc H.size q → A q := by
    rintro q (⟨k, e, hk⟩ | hk)
    · exact vD_in hD (x := (q, e)) (List.mem_append_left _ (List.mem_of_getElem? hk))
    · exact hA q (Nat.le_trans hS.1 hk)
  intro T hT X
  obtain ⟨v, st₀, t, T', L, h0, X', hL, e1, e2, ⟨⟨w1, hv, hq, hp1, hd1⟩, hz, hk⟩, stp⟩ := hr T hT X
  cases hv
  rw [h0] at hz hk
  obtain ⟨j1, j2⟩ := w_join hP hD hk hF hp1 hd1
  obtain ⟨t2, a1, b1⟩ := kk w1 hq T'.heap (locs ++ L) ls hl (by rw [e1]; exact j1) j2
    ⟨Nat.le_trans hS.1 (by rw [e1]; exact hz), fun q h1 h2 => by rw [e1, hk q (Nat.lt_of_lt_of_le h1 hS.1) (fun z => h2 (hF q z))]; exact hS.2.1 q h1 h2, fun q hq => by
      rcases List.mem_append.mp hq with h | h
      · exact hS.2.2 q h
      · exact hF _ (hL q h)⟩ T' rfl X'
  exact ⟨t2, stp t2 a1, b1⟩
theorem mk_pre {wc wr : va_W} {as : List Value} {H : Heap} {locs : List Loc} (C : Cx p s m args meth c cc nL own ret g) (hAg : ∀ q, A q → gA g q) (hO : AOs s) (hP : va_P (gD g) vwCl (wc ++ wr) H) (hD : va_D A (wc ++ wr)) (hS : va_S A s.heap H locs) : PreS s H (kPc g as wc H.size) as :=
  ⟨kPc_blind g _ _ _, fun U hU hW => ⟨rfl, by rw [hU], by rw [hU]; exact (vP_app.mp hP).1, (vD_app hD).1.weaken (fun _ _ _ _ => trivial), va_K.moved hW.alike C.2.2.2.2.2.2.2.1, C.2.2.2.2.2.2.2.2.go (locs := locs) (by rw [hU]; exact vS_mono hS hAg) hW, hO.moved hW.alike⟩⟩
theorem mk_gA {wc wr : va_W} {H : Heap} {locs : List Loc} (hA : ∀ q, s.heap.size ≤ q → A q) (hAg : ∀ q, A q → gA g q) (hD : va_D A (wc ++ wr)) (hS : va_S A s.heap H locs) : ∀ q, va_A wc H.size q → gA g q := by
  rintro q (⟨k, e, hk⟩ | hk)
  · exact hAg _ (vD_in hD (x := (q, e)) (List.mem_append_left _ (List.mem_of_getElem? hk)))
  · exact hAg _ (hA q (Nat.le_trans hS.1 hk))
/-- what a maker's call site shows of its callee -/
def Cm (y : MethodName) (cc : ByteArray) (nL : Nat) (n d' : Nat) (R : Room) : Prop :=
  Cond.code y cc nL none ∈ TT ∧ Cond.initialized y.cls ∈ TT ∧ (y.cls ≠ "java/lang/invoke/MethodHandle" ∧ y.cls ≠ "java/lang/invoke/VarHandle" ∧ (parseMethodDescriptor y.desc).map (fun d => d.parameters.length) = some n) ∧ d' + 1 ≤ R.frames ∧ 40 * d' + nL + 19 ≤ R.locals ∧ y.name = "<init>" ∧ Cond.instanceMethod y ∈ TT
theorem c_mkN {y : MethodName} {cc' : ByteArray} {nL' d' k' n' n ix : Nat} {X : KT} {host : String} {st0 : List Value} {ws0 : va_W} (wc wr : va_W) (b : Nat) (st : List Value) (As : List Value) (C : Cx p s m args meth c cc nL own ret g) (hA : ∀ q, s.heap.size ≤ q → A q) (hAg : ∀ q, A q → gA g q) (hO : AOs s) (hM : Ki l g y cc' nL' d' k' n' X) (hs : Cm y cc' nL' n d' R) (hlink : Cond.methodLinkNest own ix y host ∈ NW) (hn : As.length = n) (hc : csum st ≤ 8) (h1 : ck + k' ≤ R.cells) (h2 : cs + n' ≤ R.slots) (hd : decode cc pc = .ok (.invokespecial ix, 3)) (hst : st0 = As.reverse ++ .ref b :: st) (hws : ws0 = wc ++ wr) (hX : X (.ref b :: As) wc (fun w1 => SC p l e R s m args below meth c nL g A Qf (ck + k') (cs + n') (pc + 3) lv st (w1 ++ wr))) : SC p l e R s m args below meth c nL g A Qf ck cs pc lv st0 ws0 := by
  subst hst
  subst hws
  intro H locs ls hl hP hD hS
  refine mk_go hA (va_runIN (As := As) (b := b) ⟨C.1, C.2.1, C.2.2.1, C.2.2.2.1, C.2.2.2.2.1⟩ (hM _ _ _ H.size hX (mk_gA hA hAg hD hS)) ⟨va_cnB n C.2.2.2.2.1 (cs_pay hs.1) rfl rfl rfl (C.2.2.2.2.2.2.2.2.2.2.2.2.2.2 _ hlink) (C.2.2.2.2.1 _ hs.2.1) hs.2.2.1 ⟨hs.2.2.2.1, ?_⟩, hs.2.2.2.2.2.1, C.2.2.2.2.1 _ hs.2.2.2.2.2.2⟩ (mk_pre C hAg hO hP hD hS) rfl hn hl.1 rfl (lv_room hc) hd ⟨h1, h2⟩) hl hP hD hS (fun w1 h => h)
  have := hs.2.2.2.2.1
  show 8 + (nL' + 11) + 40 * d' ≤ R.locals
  omega
theorem c_mkI {y : MethodName} {cc' : ByteArray} {nL' d' k' n' n ix : Nat} {X : KT} {st0 : List Value} {ws0 : va_W} (wc wr : va_W) (b : Nat) (st : List Value) (As : List Value) (C : Cx p s m args meth c cc nL own ret g) (hA : ∀ q, s.heap.size ≤ q → A q) (hAg : ∀ q, A q → gA g q) (hO : AOs s) (hM : Ki l g y cc' nL' d' k' n' X) (hs : Cm y cc' nL' n d' R) (hlink : Cond.methodLink own ix y ∈ TT) (hn : As.length = n) (hc : csum st ≤ 8) (h1 : ck + k' ≤ R.cells) (h2 : cs + n' ≤ R.slots) (hd : decode cc pc = .ok (.invokespecial ix, 3)) (hst : st0 = As.reverse ++ .ref b :: st) (hws : ws0 = wc ++ wr) (hX : X (.ref b :: As) wc (fun w1 => SC p l e R s m args below meth c nL g A Qf (ck + k') (cs + n') (pc + 3) lv st (w1 ++ wr))) : SC p l e R s m args below meth c nL g A Qf ck cs pc lv st0 ws0 := by
  subst hst
  subst hws
  intro H locs ls hl hP hD hS
  refine mk_go hA (va_runI (As := As) (b := b) ⟨C.1, C.2.1, C.2.2.1, C.2.2.2.1, C.2.2.2.2.1⟩ (hM _ _ _ H.size hX (mk_gA hA hAg hD hS)) (cwI n C.2.2.2.2.1 (cs_pay hs.1) rfl rfl rfl (C.2.2.2.2.1 _ hs.2.1) (C.2.2.2.2.1 _ hlink) (C.2.2.2.2.1 _ hs.2.2.2.2.2.2) hs.2.2.2.2.2.1 hs.2.2.1 ⟨hs.2.2.2.1, ?_⟩) (mk_pre C hAg hO hP hD hS) rfl hn hl.1 rfl (lv_room hc) hd ⟨h1, h2⟩) hl hP hD hS (fun w1 h => h)
  have := hs.2.2.2.2.1
  show 8 + (nL' + 11) + 40 * d' ≤ R.locals
  omega
/-- the end of a maker -/
theorem c_end (C : Cx p s m args meth c cc nL own none g) {ws0 : va_W} {Q : va_W → Prop} (hAe : A = va_A ws0 s.heap.size) (hd : decode cc pc = .ok (.return_, 1)) (hq : Q ws) : SC p l e R s m args below meth c nL g A (MQ below (kQc g ws0 s.heap.size Q) args s ck cs A) ck cs pc lv [] ws := by
  intro H locs ls hl hP hD hS
  subst hAe
  exact W.vret C.1 C.2.1 C.2.2.2.2.2.1 (fun t ht hW => ⟨⟨ws, rfl, hq, by rw [ht]; exact hP, hD⟩, hS.F ht⟩) hS.2.2 hd C.2.2.2.2.2.2.1
/-! a call of a method upon a whole world, with others' objects beside it -/
def isCell (g1 : WG) : Prop := ∀ q, gA g1 q → ∃ i, i ∈ gids g1 ∧ gad g1 i = q
theorem fr_go {Q1 : Option Value → MM → Prop} {g1 : WG} {fr : va_W} {M : MM} {st0 : List Value} {a : Array Value} {H : Heap} {locs : List Loc} {ls : Array Slot} (hA1 : ∀ q, gA g1 q → A q) (hi : isCell g1) (hg : gD g1 = gD g) (hr : va_Run p l e R s m args below meth c H locs ck cs 0 0 (F0 m pc ls st0) st (cQc g1 Q1 a) (gA g1)) (hl : lv_has ls nL lv) (hP : va_P (gD g) vwCl (fr ++ wsM g1 M) H) (hD : va_D A (fr ++ wsM g1 M)) (hS : va_S A s.heap H locs) (kk : ∀ r M', Q1 r M' → SC p l e R s m args below meth c nL g A Qf ck cs (pc + 3) lv ((r.map (ev g1)).toList ++ st) (fr ++ wsM g1 M')) : W p l e R s m args below meth c H locs ck cs Qf (F0 m pc ls st0) := by
  obtain ⟨d1, d2, d3⟩ := vD_app hD
  have no : ∀ x, x ∈ fr → ¬ gA g1 x.1 := by
    intro x hx h
    obtain ⟨i, i1, i2⟩ := hi _ h
    obtain ⟨k, -, hk⟩ := wsM_in (g := g1) M i1
    exact d3 x hx _ (List.mem_of_getElem? hk) i2.symm
  intro T hT X
  obtain ⟨v, st₀, t, T', L, h0, X', hL, e1, e2, ⟨r, M', hv, hq, hp, hz, hk⟩, stp⟩ := hr T hT X
  cases hv
  rw [h0] at hz hk
  rw [hg] at hp
  have hfr : va_P (gD g) vwCl fr T'.heap := vP_iff.mpr fun x hx => by
    have hx' := vP_iff.mp hP x (List.mem_append_left _ hx)
    exact hx'.kept (by rw [e1]; exact hk x.1 hx'.lt (no x hx))
  have hD' : va_D A (fr ++ wsM g1 M') := vD_adr hD (by simp [wsM])
  obtain ⟨t2, a1, b1⟩ := kk r M' hq T'.heap (locs ++ L) ls hl (vP_app.mpr ⟨hfr, by rw [e1]; exact hp⟩) hD'
    ⟨Nat.le_trans hS.1 (by rw [e1]; exact hz), fun q h1 h2 => by rw [e1, hk q (Nat.lt_of_lt_of_le h1 hS.1) (fun z => h2 (hA1 q z))]; exact hS.2.1 q h1 h2, fun q hq => by
      rcases List.mem_append.mp hq with h | h
      · exact hS.2.2 q h
      · exact hA1 _ (hL q h)⟩ T' rfl X'
  exact ⟨t2, stp t2 a1, b1⟩
theorem fr_pre {g1 : WG} {fr : va_W} {M : MM} {as : List Value} {H : Heap} {locs : List Loc} (C : Cx p s m args meth c cc nL own ret g) (hAg : ∀ q, A q → gA g q) (hsub : Sub g1 g) (hA1 : ∀ i, i ∈ gids g1 → gA g1 (gad g1 i)) (hP : va_P (gD g) vwCl (fr ++ wsM g1 M) H) (hD : va_D A (fr ++ wsM g1 M)) (hS : va_S A s.heap H locs) : FrameBlind (cPc g1 as M) ∧ ∀ U : State, U.heap = H → s.WarmedH U.vm → cPc g1 as M (as.map (ev g1)).toArray U :=
  ⟨cPc_blind g1 _ M, fun U hU hW => ⟨rfl, by rw [hU, hsub.1]; exact (vP_app.mp hP).2, (vD_app hD).2.1.weaken (fun k q hk _ => by
    obtain ⟨i, i1, rfl⟩ := List.mem_map.mp (List.mem_of_getElem? hk)
    exact hA1 i i1), by rw [hsub.1, gtys_sub hsub]; exact va_K.moved hW.alike C.2.2.2.2.2.2.2.1, Ext.sub hsub (C.2.2.2.2.2.2.2.2.go (locs := locs) (by rw [hU]; exact vS_mono hS hAg) hW)⟩⟩
theorem c_ctN {y : MethodName} {cc' : ByteArray} {nL' d' n ix q ci N : Nat} {ret' : Option FieldType} {CN host : String} {T0 : u_T} {T : PT} {g1 : WG} {fr : va_W} {M : MM} (as : List Value) (C : Cx p s m args meth c cc nL own ret g) (hAg : ∀ q, A q → gA g q) (hsub : Sub g1 g) (hi : isCell g1) (hA1 : ∀ i, i ∈ gids g1 → gA g1 (gad g1 i)) (hA2 : ∀ q, gA g1 q → A q) (hq : q ∈ gids g1) (hkd : kd q = ci) (hci : ci < 7) (hcl : vwCl[ci]? = some (CN, T0, N)) (hM : Ct l g1 y cc' nL' ret' d' T) (hco : Cond.code y cc' nL' ret' ∈ TT) (hini : Cond.initialized y.cls ∈ TT) (hdc : y.cls ≠ "java/lang/invoke/MethodHandle" ∧ y.cls ≠ "java/lang/invoke/VarHandle" ∧ (parseMethodDescriptor y.desc).map (fun d => d.parameters.length) = some n) (hR1 : d' + 1 ≤ R.frames) (hR2 : 40 * d' + nL' + 19 ≤ R.locals) (hlink : Cond.methodLinkNest own ix y host ∈ NW) (him : Cond.instanceMethod y ∈ TT) (hy : y.cls = CN) (hse : Cond.selects CN y y ∈ TT) (hn : as.length = n) (hc : csum st ≤ 8) (h1 : ck ≤ R.cells) (h2 : cs ≤ R.slots) (hd : decode cc pc = .ok (.invokevirtual ix, 3)) (hT : T (.ref q :: as) M (fun r M' => SC p l e R s m args below meth c nL g A Qf ck cs (pc + 3) lv ((r.map (ev g1)).toList ++ st) (fr ++ wsM g1 M'))) : SC p l e R s m args below meth c nL g A Qf ck cs pc lv ((as.map (ev g1)).reverse ++ .ref (gad g1 q) :: st) (fr ++ wsM g1 M) := by
  subst hy
  intro H locs ls hl hP hD hS
  obtain ⟨j, hj1, hj2⟩ := wsM_in (g := g1) M hq
  have he : eE g1 M q = .inr (ci, (List.range (nf ci)).map (fun j => ev g1 (fv g1 M q j))) := by simp only [eE, hkd]; rw [if_pos hci]
  rw [he] at hj2
  obtain ⟨p1, p2⟩ := fr_pre (as := .ref q :: as) C hAg hsub hA1 hP hD hS
  refine fr_go hA2 hi hsub.1 (va_runVN (As := as.map (ev g1)) (b := gad g1 q) ⟨C.1, C.2.1, C.2.2.1, C.2.2.2.1, C.2.2.2.2.1⟩ (hM _ _ _ hT) ⟨va_cnB n C.2.2.2.2.1 (cs_pay hco) rfl rfl rfl (C.2.2.2.2.2.2.2.2.2.2.2.2.2.2 _ hlink) (C.2.2.2.2.1 _ hini) hdc ⟨hR1, ?_⟩, C.2.2.2.2.1 _ him, C.2.2.2.2.1 _ hse⟩ ⟨p1, va_recv C.2.2.2.2.2.2.2.1 (vP_app.mp hP).2 hcl hj2, p2⟩ rfl (by rw [List.length_map]; exact hn) hl.1 rfl (lv_room hc) hd ⟨h1, h2⟩) hl hP hD hS (fun r M' h => h)
  show 8 + (nL' + 11) + 40 * d' ≤ R.locals
  omega
theorem c_ctS {y : MethodName} {cc' : ByteArray} {nL' d' n ix i : Nat} {ret' : Option FieldType} {T : PT} {g1 : WG} {fr : va_W} {M : MM} (as : List Value) (C : Cx p s m args meth c cc nL own ret g) (hAg : ∀ q, A q → gA g q) (hsub : Sub g1 g) (hi : isCell g1) (hA1 : ∀ i, i ∈ gids g1 → gA g1 (gad g1 i)) (hA2 : ∀ q, gA g1 q → A q) (hi13 : i < 13) (hM : Ct l g1 y cc' nL' ret' d' T) (hco : Cond.code y cc' nL' ret' ∈ TT) (hini : Cond.initialized "java/lang/String" ∈ TT) (hdc : y.cls ≠ "java/lang/invoke/MethodHandle" ∧ y.cls ≠ "java/lang/invoke/VarHandle" ∧ (parseMethodDescriptor y.desc).map (fun d => d.parameters.length) = some n) (hR1 : d' + 1 ≤ R.frames) (hR2 : 40 * d' + nL' + 19 ≤ R.locals) (hlink : Cond.methodLink own ix y ∈ TT) (him : Cond.instanceMethod y ∈ TT) (hy : y.cls = "java/lang/String") (hse : Cond.selects "java/lang/String" y y ∈ TT) (hn : as.length = n) (hc : csum st ≤ 8) (h1 : ck ≤ R.cells) (h2 : cs ≤ R.slots) (hd : decode cc pc = .ok (.invokevirtual ix, 3)) (hT : T (.ref (200 + i) :: as) M (fun r M' => SC p l e R s m args below meth c nL g A Qf ck cs (pc + 3) lv ((r.map (ev g1)).toList ++ st) (fr ++ wsM g1 M'))) : SC p l e R s m args below meth c nL g A Qf ck cs pc lv ((as.map (ev g1)).reverse ++ .ref (gad g1 (200 + i)) :: st) (fr ++ wsM g1 M) := by
  intro H locs ls hl hP hD hS
  obtain ⟨p1, p2⟩ := fr_pre (as := .ref (200 + i) :: as) C hAg hsub hA1 hP hD hS
  have hsg : va_S (gA g) s.heap H locs := vS_mono hS hAg
  refine fr_go hA2 hi hsub.1 (va_runV (C := "java/lang/String") (As := as.map (ev g1)) (b := gad g1 (200 + i)) ⟨C.1, C.2.1, C.2.2.1, C.2.2.2.1, C.2.2.2.2.1⟩ (hM _ _ _ hT) (cwV n C.2.2.2.2.1 (fun w hw => ?_) rfl rfl rfl ⟨hy, hdc⟩ ⟨hR1, ?_⟩) ⟨p1, ?_, p2⟩ rfl (by rw [List.length_map]; exact hn) hl.1 rfl (lv_room hc) hd ⟨h1, h2⟩) hl hP hD hS (fun r M' h => h)
  · rcases List.mem_append.mp hw with hw | hw
    · simp only [List.mem_cons, List.not_mem_nil, or_false] at hw
      rcases hw with rfl | rfl | rfl | rfl
      · exact TT_pay (ws := [_]) (fun w hw => by rw [List.mem_singleton.mp hw]; exact hlink) _ (List.mem_singleton.mpr rfl)
      · exact TT_pay (ws := [_]) (fun w hw => by rw [List.mem_singleton.mp hw]; exact him) _ (List.mem_singleton.mpr rfl)
      · exact TT_pay (ws := [_]) (fun w hw => by rw [List.mem_singleton.mp hw]; exact hse) _ (List.mem_singleton.mpr rfl)
      · exact TT_pay (ws := [_]) (fun w hw => by rw [List.mem_singleton.mp hw]; exact hini) _ (List.mem_singleton.mpr rfl)
    · exact cs_pay hco w hw
  · show 8 + (nL' + 11) + 40 * d' ≤ R.locals
    omega
  · rw [hsub.2.2.1 _ (by omega)]
    exact vk_recv (adK := fun i => gad g (200 + i)) (i := i) C.2.2.2.2.2.2.2.2.2.2.1 hi13 hsg
end MAKE
theorem Ki.of {l : Launch} {g : WG} {y : MethodName} {cc : ByteArray} {nL d k n : Nat} {X : KT} (hy : plainName y.cls = true) (hyn : y.name = "<init>") (hlen : ∀ as ws Q, X as ws Q → as.length ≤ nL ∧ ∀ v ∈ as, v.category = 1)
    (body : ∀ (p : Program) (e : Env) (s : State) (m : MethodId) (args : Array Value) (below : List Frame) (meth : Method) (c : Code) (as : List Value) (ws : va_W) (Q : va_W → Prop) (A : Nat → Prop), X as ws Q → Cx p s m args meth c cc nL y.cls none g → meth.name = "<init>" → AOs s → (∀ q, s.heap.size ≤ q → A q) → (∀ q, A q → gA g q) → A = va_A ws s.heap.size →
      SC p l e (rmK d k n) s m args below meth c nL g A (MQ below (kQc g ws s.heap.size Q) args s k n A) 0 0 0 (lent 0 as) [] ws) : Ki l g y cc nL d k n X := by
  intro as ws Q sz hX hg
  obtain ⟨h1, h2⟩ := hlen as ws Q hX
  refine Met.ofW (cc := cc) (maxL := nL) (ret := none) hy rfl ?_
  intro p e s m args below meth c s₁ B hml hv
  obtain ⟨rfl, hsz, hP, hD, hK, hE, hO⟩ := hv
  have hts := atoms_spec (ws := Cond.code y cc nL none :: TT) B.pre
  have hl := lv_entry as (n := nL) (by have := lent_len (g := (gD g, gC g, id, [], fun _ => False, fun _ => false)) as h2; rw [show as.map (ev (gD g, gC g, id, [], fun _ => False, fun _ => false)) = as from by
    rw [List.map_congr_left (g := id) (fun v _ => by cases v <;> rfl), List.map_id]] at this; rw [this]; exact h1)
  rw [lg_entry_eq]
  have e0 : lv_args 0 as = lent 0 as := by
    have := lent_ev (gD g, gC g, id, [], fun _ => False, fun _ => false) as 0 h2
    rw [show as.map (ev (gD g, gC g, id, [], fun _ => False, fun _ => false)) = as from by
      rw [List.map_congr_left (g := id) (fun v _ => by cases v <;> rfl), List.map_id]] at this
    rw [this]
    rw [show evL (gD g, gC g, id, [], fun _ => False, fun _ => false) (lent 0 as) = lent 0 as from by
      show (lent 0 as).map _ = _
      rw [List.map_congr_left (g := id) (fun v _ => by obtain ⟨i, v⟩ := v; cases v <;> rfl), List.map_id]]
  rw [e0] at hl
  subst hsz
  exact body p e s m _ below meth c as ws Q _ hX ⟨B.exec, B.bytes, hml, findClass_of_methodNamed B.named, fun w hw => hts w (List.mem_cons_of_mem _ hw), B.returns, B.notSynchronized, hK, hE⟩ ((name_of_methodNamed B.named B.method).1.trans hyn) hO (fun q h => Or.inr h) hg rfl _ _ _ hl hP hD.self va_S.rf
