/-! ===== the engine: a memory by numbers, one judgement, a row an instruction ===== -/
abbrev vwCl : List vw_C := [(RX0, TX0, 9), (RX1, TX1, 6), (RX2, TX2, 3), (RX3, TX3, 8), (RX4, TX4, 5), (RX5, TX5, 8), (RX6, TX6, 47)]
/-- the memory: by an object's number and a slot (a field, or a place of an array) an int; a reference by its object's number -/
abbrev MM : Type := Nat → Nat → Int32
def mset (M : MM) (q j : Nat) (x : Int32) : MM := fun a b => if a = q then (if b = j then x else M a b) else M a b
theorem mset_self (M : MM) (q j : Nat) (x : Int32) : mset M q j x q = upd (M q) j x := by
  funext b; simp [mset, upd]
theorem mset_ne (M : MM) {q a : Nat} (j : Nat) (x : Int32) (h : a ≠ q) : mset M q j x a = M a := by
  funext b; simp [mset, h]
/-- a world: the classes' numbers, the arrays' classes, the address of each number, the numbers that are there, what may be written, which are still being made -/
abbrev WG : Type := va_G × (Nat → ClassId) × (Nat → Nat) × List Nat × (Nat → Prop) × (Nat → Bool)
abbrev gD (g : WG) : va_G := g.1
abbrev gC (g : WG) : Nat → ClassId := g.2.1
abbrev gad (g : WG) : Nat → Nat := g.2.2.1
abbrev gids (g : WG) : List Nat := g.2.2.2.1
abbrev gA (g : WG) : Nat → Prop := g.2.2.2.2.1
abbrev gfl (g : WG) : Nat → Bool := g.2.2.2.2.2
def gtys (g : WG) : List (ClassId × FieldType) := [(gC g 0, .int), (gC g 1, .boolean), (gC g 2, .object RX1), (gC g 3, .object RX2), (gC g 4, .object RX4)]
/-- kinds: 0 .. 6 the classes, 7 ints, 8 booleans, 9 seams, 10 sheets, 11 texts -/
def kdL : List Nat := [5, 11, 10, 3, 7, 7, 7, 7, 4, 7, 7, 7, 4, 7, 7, 7, 4, 7, 7, 7, 4, 7, 7, 7, 4, 7, 7, 7, 4, 7, 7, 7, 2, 7, 2, 7, 2, 7, 2, 7,
  0, 7, 9, 7, 7, 1, 1, 1, 1, 1, 1, 1, 0, 7, 9, 7, 7, 1, 1, 1, 1, 1, 1, 1, 0, 7, 9, 7, 7, 1, 1, 1, 1, 1, 1, 1,
  6, 7, 7, 7, 7, 7, 7, 8, 7, 7, 7, 7, 7, 7, 8, 8, 7, 7, 8, 7, 7, 7, 7, 7, 7, 7]
def lnL : List Nat := [0, 6, 4, 0, 160, 161, 161, 161, 0, 160, 3, 160, 0, 160, 3, 160, 0, 160, 3, 160, 0, 160, 3, 160, 0, 160, 3, 160, 0, 160, 3, 160, 0, 40, 0, 40, 0, 40, 0, 40,
  0, 16, 7, 16, 6, 0, 0, 0, 0, 0, 0, 0, 0, 16, 7, 16, 6, 0, 0, 0, 0, 0, 0, 0, 0, 16, 7, 16, 6, 0, 0, 0, 0, 0, 0, 0,
  0, 16, 7, 7, 7, 7, 7, 7, 160, 18, 18, 3000, 200, 200, 16, 16, 16, 7, 7, 7, 16, 16, 30, 4, 4, 160]
def kd (q : Nat) : Nat := kdL.getD q 99
def ln (q : Nat) : Nat := lnL.getD q 0
/-- where an object's own row (or object) stands behind it -/
def rfo : Nat → Nat → Nat
  | 0, j => 1 + j
  | 2, _ => 1
  | 3, j => 1 + j
  | 4, j => j
  | 5, 0 => 1 | 5, 1 => 2 | 5, 2 => 3 | 5, 3 => 40 | 5, 4 => 52 | 5, 5 => 64
  | 6, 1 => 1 | 6, 3 => 2 | 6, 4 => 3 | 6, 5 => 4 | 6, 6 => 5 | 6, 7 => 6 | 6, 8 => 7 | 6, 11 => 8 | 6, 13 => 9 | 6, 14 => 10 | 6, 15 => 11
  | 6, 22 => 12 | 6, 28 => 13 | 6, 29 => 14 | 6, 30 => 15 | 6, 31 => 16 | 6, 33 => 17 | 6, 34 => 18 | 6, 35 => 19 | 6, 37 => 20 | 6, 42 => 21 | 6, 43 => 22 | 6, 44 => 23 | 6, 45 => 24 | 6, 46 => 25
  | _, _ => 0
/-- a slot: 0 a number, 1 a reference that stays, 2 one that changes -/
def sty : Nat → Nat → Nat
  | 0, j => if j < 4 then 1 else if j = 4 then 2 else 0
  | 2, j => if j = 0 then 1 else 0
  | 3, j => if j < 4 then 1 else 0
  | 4, j => if j = 0 then 0 else if j < 4 then 1 else 0
  | 5, j => if j < 6 then 1 else 0
  | 6, j => if rfo 6 j = 0 then 0 else 1
  | _, _ => 0
def aof : Nat → Nat → Nat
  | 9, i => 3 + i
  | 10, i => 30 + 2 * i
  | _, i => 7 + 4 * i
def nfl : List Nat := [9, 6, 3, 8, 5, 8, 47]
def nf (c : Nat) : Nat := nfl.getD c 0
/-- a reference out of its code -/
def rdv (x : Int32) : Value := if x < 0 then .null else .ref x.toNatClampNeg
/-- a value of the machine out of one by numbers -/
def ev (g : WG) (v : Value) : Value := match v with | .ref k => .ref (gad g k) | w => w
def fv (g : WG) (M : MM) (q j : Nat) : Value :=
  if sty (kd q) j = 0 then .int (M q j) else if sty (kd q) j = 1 ∧ gfl g q = false then .ref (q + rfo (kd q) j) else rdv (M q j)
def era (g : WG) (M : MM) (q i : Nat) : Option Nat :=
  if gfl g q = false then some (gad g (q + aof (kd q) i)) else if M q i < 0 then none else some (gad g (M q i).toNatClampNeg)
def eE (g : WG) (M : MM) (q : Nat) : va_E :=
  if kd q < 7 then .inr (kd q, (List.range (nf (kd q))).map (fun j => ev g (fv g M q j)))
  else if kd q = 7 then .inl (gC g 0, ln q, .inl (M q)) else if kd q = 8 then .inl (gC g 1, ln q, .inl (M q))
  else .inl (gC g (kd q - 7), ln q, .inr (.inr (.inr (.inr (era g M q)))))
def wsM (g : WG) (M : MM) : va_W := (gids g).map (fun q => (gad g q, eE g M q))
theorem wsM_at (g : WG) (M : MM) (k : Nat) : (wsM g M)[k]? = ((gids g)[k]?).map (fun q => (gad g q, eE g M q)) := by simp [wsM]
theorem wsM_D {g : WG} {M M' : MM} {A : Nat → Prop} (h : va_D A (wsM g M)) : va_D A (wsM g M') := by
  refine ⟨fun i j p q hi hj hpq => ?_, fun k q hk => ?_⟩
  · rw [wsM_at] at hi hj
    cases h1 : (gids g)[i]? with
    | none => simp [h1] at hi
    | some a => cases h2 : (gids g)[j]? with
      | none => simp [h2] at hj
      | some b =>
        simp [h1] at hi; simp [h2] at hj; subst hi; subst hj
        exact h.1 i j (gad g a, eE g M a) (gad g b, eE g M b) (by rw [wsM_at, h1]; rfl) (by rw [wsM_at, h2]; rfl) hpq
  · rw [wsM_at] at hk
    cases h1 : (gids g)[k]? with
    | none => simp [h1] at hk
    | some a => simp [h1] at hk; subst hk; exact h.2 k (gad g a, eE g M a) (by rw [wsM_at, h1]; rfl)
theorem wsM_in {g : WG} (M : MM) {q : Nat} (h : q ∈ gids g) : ∃ k : Nat, (gids g)[k]? = some q ∧ (wsM g M)[k]? = some (gad g q, eE g M q) := by
  obtain ⟨k, hk⟩ := List.getElem?_of_mem h
  exact ⟨k, hk, by rw [wsM_at, hk]; rfl⟩
theorem wsM_inj {g : WG} {M : MM} {A : Nat → Prop} (hD : va_D A (wsM g M)) {i j q : Nat} (hi : (gids g)[i]? = some q) (hj : (gids g)[j]? = some q) : i = j :=
  hD.1 i j (gad g q, eE g M q) (gad g q, eE g M q) (by rw [wsM_at, hi]; rfl) (by rw [wsM_at, hj]; rfl) rfl
theorem ws_setg {ids : List Nat} {ad : Nat → Nat} {f f' : Nat → va_E} {k q : Nat} (hk : ids[k]? = some q) (hinj : ∀ j, ids[j]? = some q → k = j) {e' : va_E} (he : f' q = e') (ho : ∀ a, a ≠ q → f' a = f a) : (ids.map (fun q => (ad q, f q))).set k (ad q, e') = ids.map (fun q => (ad q, f' q)) := by
  apply List.ext_getElem?
  intro j
  rw [List.getElem?_set, List.getElem?_map, List.getElem?_map]
  by_cases hjk : k = j
  · subst hjk
    have hlt : k < ids.length := (List.getElem?_eq_some_iff.mp hk).1
    rw [if_pos rfl, hk, List.length_map, if_pos hlt]
    exact congrArg (fun e => some (ad q, e)) he.symm
  · rw [if_neg hjk]
    cases h1 : ids[j]? with
    | none => rfl
    | some a =>
      have hne : a ≠ q := fun e => hjk (hinj j (e ▸ h1))
      simp [ho a hne]
theorem wsM_set {g : WG} {M M' : MM} {A : Nat → Prop} (hD : va_D A (wsM g M)) {k q : Nat} (hk : (gids g)[k]? = some q) {e' : va_E} (he : eE g M' q = e') (ho : ∀ a, a ≠ q → eE g M' a = eE g M a) : (wsM g M).set k (gad g q, e') = wsM g M' :=
  ws_setg hk (fun j hj => wsM_inj hD hk hj) he ho
theorem eE_ne {g : WG} {M : MM} {q a j : Nat} {x : Int32} (h : a ≠ q) : eE g (mset M q j x) a = eE g M a := by
  unfold eE
  rw [mset_ne M j x h]
  have h1 : fv g (mset M q j x) a = fv g M a := by funext b; simp [fv, mset, h]
  have h2 : era g (mset M q j x) a = era g M a := by funext b; simp [era, mset, h]
  rw [h1, h2]
/-- a whole object of a kind that is there -/
def okq (g : WG) (k q : Nat) : Prop := q ∈ gids g ∧ kd q = k ∧ gfl g q = false
/-- strings: (class, entry, text), and their bytes -/
def kS : List (String × Nat × String) := [("SewsUpTheAfternoon", 32, "pulls length ; wears 1 + length ; stands 20 ;"), ("SewsUpTheAfternoon$Tape", 109, "length"), ("SewsUpTheAfternoon$Tape", 110, "worn"), ("SewsUpTheAfternoon$Tape", 112, "number"), ("SewsUpTheAfternoon$Tape", 114, "joy"), ("SewsUpTheAfternoon$Tape", 116, "day"), ("SewsUpTheAfternoon$Tape", 118, "seams"), ("SewsUpTheAfternoon$Tape", 120, "pulls"), ("SewsUpTheAfternoon$Tape", 122, "wears"), ("SewsUpTheAfternoon$Tape", 124, "stands"), ("SewsUpTheAfternoon$Tape", 126, "or"), ("SewsUpTheAfternoon$Tape", 128, "and"), ("SewsUpTheAfternoon$Tape", 130, "not")]
def bytS : List (List Int32) := kS.map fun x => x.2.2.toList.map fun c => nI c.toNat
def lenS : List Nat := bytS.map List.length
def undV (j : Nat) : Int32 := [(-1 : Int32), 0, 0, 1, 2, 0].getD j 0
/-- the formatter's static: null or a reference (1001 says which) -/
def fmtE (ad : Nat → Nat) : Value := if ad 1001 = 0 then .null else .ref (ad 1003)
/-- what the world outside holds: UNDER, the strings, two statics of the JDK -/
def Ext (g : WG) (U : State) : Prop :=
  va_Z RX5 "UNDER" "[I" (.ref (gad g 1000)) (gA g) U U.heap ∧ va_T .int (gad g 1000) 6 (fun j => .int (undV j)) (gA g) U U.heap ∧
  vk_S 13 lenS bytS (fun i => gad g (200 + i)) (fun i => gad g (300 + i)) (gA g) U U.heap ∧
  (∀ i x, kS[i]? = some x → vk_R x.1 x.2.1 x.2.2 (gad g (200 + i)) U) ∧
  va_Z "java/lang/String" "COMPACT_STRINGS" "Z" (.int 1) (gA g) U U.heap ∧
  va_Z "jdk/internal/util/Preconditions" "SIOOBE_FORMATTER" "Ljava/util/function/BiFunction;" (fmtE (gad g)) (gA g) U U.heap ∧
  ∀ w ∈ NW, va_Nw w U
theorem Ext.go {g : WG} {s U : State} {locs : List Loc} (h : Ext g s) (hS : va_S (gA g) s.heap U.heap locs) (hW : s.WarmedH U.vm) : Ext g U :=
  ⟨va_Z.moved hW.alike (h.1.kept hS.2.1), va_T.moved hW.alike (h.2.1.kept hS.2.1), vk_S.moved hW.alike (h.2.2.1.kept hS.2.1), fun i x hx => (h.2.2.2.1 i x hx).warm hW, va_Z.moved hW.alike (h.2.2.2.2.1.kept hS.2.1), va_Z.moved hW.alike (h.2.2.2.2.2.1.kept hS.2.1), NW_warm hW h.2.2.2.2.2.2⟩
theorem Ext.blind {g : WG} {U : State} (f : JFrame) (mk : MethodId) (a : Array Value) (h : Ext g U) : Ext g (U.calling f mk a) :=
  ⟨va_Z.moved (u := U) (U := U.calling f mk a) (Vm.Alike.refl U.vm) h.1, va_T.moved (u := U) (U := U.calling f mk a) (Vm.Alike.refl U.vm) h.2.1, vk_S.moved (u := U) (U := U.calling f mk a) (Vm.Alike.refl U.vm) h.2.2.1,
    fun i x hx => vk_R.same (u := U) (U := U.calling f mk a) rfl (h.2.2.2.1 i x hx), va_Z.moved (u := U) (U := U.calling f mk a) (Vm.Alike.refl U.vm) h.2.2.2.2.1, va_Z.moved (u := U) (U := U.calling f mk a) (Vm.Alike.refl U.vm) h.2.2.2.2.2.1, fun w hw => va_tabs (u := U) (U := U.calling f mk a) (by have h1 := (List.mem_filter.mp hw).2; cases w <;> first | exact (Bool.noConfusion h1) | rfl) rfl (h.2.2.2.2.2.2 w hw)⟩
def rmD (d : Nat) : Room := { frames := d, cells := 0, slots := 0, locals := 40 * d }
/-- locals by numbers, in the order of their places -/
def cat2 : Value → Bool
  | .long _ => true
  | .double _ => true
  | _ => false
theorem cat2_iff (v : Value) : cat2 v = true ↔ v.category = 2 := by cases v <;> simp [cat2, Value.category]
def lg : List (Nat × Value) → Nat → Option Value
  | [], _ => none
  | (k, w) :: t, i => bif k == i then some w else lg t i
def lins (i : Nat) (v : Value) : List (Nat × Value) → List (Nat × Value)
  | [] => [(i, v)]
  | (k, w) :: t => bif decide (k < i) then (k, w) :: lins i v t else (i, v) :: (k, w) :: t
def ldel (i : Nat) : List (Nat × Value) → List (Nat × Value)
  | [] => []
  | (k, w) :: t => bif k == i then ldel i t else bif (k + 1 == i) && cat2 w then ldel i t else (k, w) :: ldel i t
def ldel2 (i : Nat) : List (Nat × Value) → List (Nat × Value)
  | [] => []
  | (k, w) :: t => bif k == i then ldel2 i t else bif k == i + 1 then ldel2 i t else bif (k + 1 == i) && cat2 w then ldel2 i t else (k, w) :: ldel2 i t
def lset (lv : List (Nat × Value)) (i : Nat) (v : Value) : List (Nat × Value) := lins i v (ldel i lv)
def lset2 (lv : List (Nat × Value)) (i : Nat) (v : Value) : List (Nat × Value) := lins i v (ldel2 i lv)
def memb (k : Nat) : List Nat → Bool
  | [] => false
  | a :: t => bif a == k then true else memb k t
/-- only these locals -/
def lkeep (ks : List Nat) : List (Nat × Value) → List (Nat × Value)
  | [] => []
  | (k, w) :: t => bif memb k ks then (k, w) :: lkeep ks t else lkeep ks t
abbrev evL (g : WG) (lv : List (Nat × Value)) : List (Nat × Value) := lv.map (fun q => (q.1, ev g q.2))
theorem ev_cat (g : WG) (v : Value) : (ev g v).category = v.category := by cases v <;> rfl
theorem lg_at {g : WG} {ls : Array Slot} {nL i : Nat} {lv : List (Nat × Value)} {v : Value} (h : lv_has ls nL (evL g lv)) (hv : lg lv i = some v) : ls[i]? = some (.val (ev g v)) := by
  have key : ∀ l : List (Nat × Value), lg l i = some v → (i, v) ∈ l := by
    intro l
    induction l with
    | nil => intro h; cases h
    | cons q t ih =>
      obtain ⟨k, w⟩ := q
      intro h
      simp only [lg] at h
      cases hk : k == i with
      | true => rw [hk] at h; cases h; rw [beq_iff_eq] at hk; subst hk; exact List.mem_cons_self
      | false => rw [hk] at h; exact List.mem_cons_of_mem _ (ih h)
  exact h.2.2 (i, ev g v) (List.mem_map.mpr ⟨(i, v), key lv hv, rfl⟩)
theorem mem_lins {i : Nat} {v : Value} {q : Nat × Value} : ∀ {l : List (Nat × Value)}, q ∈ lins i v l → q = (i, v) ∨ q ∈ l
  | [], h => by simpa [lins] using h
  | (k, w) :: t, h => by
    simp only [lins] at h
    cases hk : decide (k < i) with
    | true =>
      rw [hk] at h
      rcases List.mem_cons.mp h with h | h
      · exact Or.inr (h ▸ List.mem_cons_self)
      · rcases mem_lins h with h | h
        · exact Or.inl h
        · exact Or.inr (List.mem_cons_of_mem _ h)
    | false =>
      rw [hk] at h
      rcases List.mem_cons.mp h with h | h
      · exact Or.inl h
      · exact Or.inr h
theorem mem_ldel {i : Nat} {q : Nat × Value} : ∀ {l : List (Nat × Value)}, q ∈ ldel i l → q ∈ l ∧ ¬ q.1 = i ∧ ¬ (q.1 + 1 = i ∧ q.2.category = 2)
  | [], h => by simp [ldel] at h
  | (k, w) :: t, h => by
    simp only [ldel] at h
    cases h1 : k == i with
    | true => rw [h1] at h; obtain ⟨a, b⟩ := mem_ldel (l := t) h; exact ⟨List.mem_cons_of_mem _ a, b⟩
    | false =>
      rw [h1] at h
      cases h2 : (k + 1 == i) && cat2 w with
      | true => rw [h2] at h; obtain ⟨a, b⟩ := mem_ldel (l := t) h; exact ⟨List.mem_cons_of_mem _ a, b⟩
      | false =>
        rw [h2] at h
        rcases List.mem_cons.mp h with h | h
        · subst h
          refine ⟨List.mem_cons_self, by simpa using h1, fun z => ?_⟩
          rw [show (k + 1 == i) = true from by simpa using z.1, (cat2_iff w).mpr z.2] at h2
          cases h2
        · obtain ⟨a, b⟩ := mem_ldel (l := t) h; exact ⟨List.mem_cons_of_mem _ a, b⟩
theorem mem_ldel2 {i : Nat} {q : Nat × Value} : ∀ {l : List (Nat × Value)}, q ∈ ldel2 i l → q ∈ l ∧ ¬ q.1 = i ∧ ¬ q.1 = i + 1 ∧ ¬ (q.1 + 1 = i ∧ q.2.category = 2)
  | [], h => by simp [ldel2] at h
  | (k, w) :: t, h => by
    simp only [ldel2] at h
    cases h1 : k == i with
    | true => rw [h1] at h; obtain ⟨a, b⟩ := mem_ldel2 (l := t) h; exact ⟨List.mem_cons_of_mem _ a, b⟩
    | false =>
      rw [h1] at h
      cases h0 : k == i + 1 with
      | true => rw [h0] at h; obtain ⟨a, b⟩ := mem_ldel2 (l := t) h; exact ⟨List.mem_cons_of_mem _ a, b⟩
      | false =>
        rw [h0] at h
        cases h2 : (k + 1 == i) && cat2 w with
        | true => rw [h2] at h; obtain ⟨a, b⟩ := mem_ldel2 (l := t) h; exact ⟨List.mem_cons_of_mem _ a, b⟩
        | false =>
          rw [h2] at h
          rcases List.mem_cons.mp h with h | h
          · subst h
            refine ⟨List.mem_cons_self, by simpa using h1, by simpa using h0, fun z => ?_⟩
            rw [show (k + 1 == i) = true from by simpa using z.1, (cat2_iff w).mpr z.2] at h2
            cases h2
          · obtain ⟨a, b⟩ := mem_ldel2 (l := t) h; exact ⟨List.mem_cons_of_mem _ a, b⟩
theorem mem_lkeep {ks : List Nat} {q : Nat × Value} : ∀ {l : List (Nat × Value)}, q ∈ lkeep ks l → q ∈ l
  | [], h => by simp [lkeep] at h
  | (k, w) :: t, h => by
    simp only [lkeep] at h
    cases hk : memb k ks with
    | true =>
      rw [hk] at h
      rcases List.mem_cons.mp h with h | h
      · exact h ▸ List.mem_cons_self
      · exact List.mem_cons_of_mem _ (mem_lkeep h)
    | false => rw [hk] at h; exact List.mem_cons_of_mem _ (mem_lkeep h)
theorem lv_mono {ls : Array Slot} {nL : Nat} {l l' : List (Nat × Value)} (h : lv_has ls nL l) (hs : ∀ q ∈ l', q ∈ l) : lv_has ls nL l' := ⟨h.1, h.2.1, fun q hq => h.2.2 q (hs q hq)⟩
theorem lset_of {g : WG} {ls : Array Slot} {nL i : Nat} {v : Value} {lv : List (Nat × Value)} (h : lv_has ls nL ((i, ev g v) :: (evL g lv).filter (fun q => !(q.1 == i) && !(q.1 + 1 == i && q.2.category == 2)))) : lv_has ls nL (evL g (lset lv i v)) := by
  refine lv_mono h fun q hq => ?_
  obtain ⟨r, hr, rfl⟩ := List.mem_map.mp hq
  rcases mem_lins hr with hr | hr
  · subst hr; exact List.mem_cons_self
  · obtain ⟨h1, h2, h3⟩ := mem_ldel hr
    refine List.mem_cons_of_mem _ (List.mem_filter.mpr ⟨List.mem_map.mpr ⟨r, h1, rfl⟩, ?_⟩)
    simp only [ev_cat]
    simp [h2]
    exact Decidable.not_and_iff_not_or_not.mp h3
theorem lset2_of {g : WG} {ls : Array Slot} {nL i : Nat} {v : Value} {lv : List (Nat × Value)} (h : lv_has ls nL ((i, ev g v) :: (evL g lv).filter (fun q => !(q.1 == i) && (!(q.1 == i + 1) && !(q.1 + 1 == i && q.2.category == 2))))) : lv_has ls nL (evL g (lset2 lv i v)) := by
  refine lv_mono h fun q hq => ?_
  obtain ⟨r, hr, rfl⟩ := List.mem_map.mp hq
  rcases mem_lins hr with hr | hr
  · subst hr; exact List.mem_cons_self
  · obtain ⟨h1, h2, h3, h4⟩ := mem_ldel2 hr
    refine List.mem_cons_of_mem _ (List.mem_filter.mpr ⟨List.mem_map.mpr ⟨r, h1, rfl⟩, ?_⟩)
    simp only [ev_cat]
    simp [h2, h3]
    exact Decidable.not_and_iff_not_or_not.mp h4
/-- what a method's body stands on -/
def Cx (p : Program) (s : State) (m : MethodId) (args : Array Value) (meth : Method) (c : Code) (cc : ByteArray) (nL : Nat) (own : String) (ret : Option FieldType) (g : WG) : Prop :=
  p.tables.exec = Jvm.exec ∧ c.code = cc ∧ c.maxLocals = nL ∧ s.vm.findClass own = some m.cls ∧ (∀ w ∈ TT, w.before args s = true) ∧ meth.sig.returnType = ret ∧ meth.locks = false ∧ va_K (gD g) vwCl (gtys g) s ∧ Ext g s
abbrev PP : Type := List (Nat × Value) → List Value → MM → Prop
/-- at pc, in every state that P allows, the method comes to its end as Qf says -/
def Sj (p : Program) (l : Launch) (e : Env) (d : Nat) (s : State) (m : MethodId) (args : Array Value) (below : List Frame) (meth : Method) (c : Code) (nL : Nat) (g : WG) (Qf : State → Prop) (pc : Nat) (P : PP) : Prop :=
  ∀ (lv : List (Nat × Value)) (st : List Value) (M : MM) (H : Heap) (locs : List Loc) (ls : Array Slot), P lv st M → lv_has ls nL (evL g lv) → va_P (gD g) vwCl (wsM g M) H → va_D (gA g) (wsM g M) → va_S (gA g) s.heap H locs →
    W p l e (rmD d) s m args below meth c H locs 0 0 Qf (F0 m pc ls (st.map (ev g)))
