/-! ===== what the law starts from: the classes, the strings, the statics ===== -/
def tmS (i : Nat) : Term := Term.string ((kS.getD i ("", 0, "")).1) ((kS.getD i ("", 0, "")).2.1)
abbrev fl1 : List Cond := flatC (Jvm.Cond.and given_1 narrow_1)
def bsI : List Nat := [39, 88, 99, 109, 122, 133, 145, 160, 176, 193, 212, 228, 246]
def neI : List (List Nat) := [[], [98], [107, 108], [119, 120, 121], [129, 130, 131, 132], [140, 141, 142, 143, 144], [154, 155, 156, 157, 158, 159], [169, 170, 171, 172, 173, 174, 175], [185, 186, 187, 188, 189, 190, 191, 192], [203, 204, 205, 206, 207, 208, 209, 210, 211], [218, 219, 220, 221, 222, 223, 224, 225, 226, 227], [235, 236, 237, 238, 239, 240, 241, 242, 243, 244, 245], [253, 254, 255, 256, 257, 258, 259, 260, 261, 262, 263, 264]]
theorem fs_exp : ∀ i, i < 13 → fl1[bsI.getD i 0]? = some (Cond.exactly (tmS i) "java/lang/String") := by decide +kernel
theorem fs_cop : ∀ i, i < 13 → fl1[bsI.getD i 0 + 1]? = some (Cond.eq (.field (tmS i) "java/lang/String" "coder" "B") (.int 0)) := by decide +kernel
theorem fs_arp : ∀ i, i < 13 → fl1[bsI.getD i 0 + 2]? = some (Cond.arrayOf (.field (tmS i) "java/lang/String" "value" "[B") .byte) := by decide +kernel
theorem fs_lep : ∀ i, i < 13 → fl1[bsI.getD i 0 + 3]? = some (Cond.eq (.length (.field (tmS i) "java/lang/String" "value" "[B")) (.int (Int32.ofNat (lenS.getD i 0)))) := by decide +kernel
theorem fs_elp : ∀ i, i < 13 → ∀ j, j < lenS.getD i 0 → fl1[bsI.getD i 0 + 4 + j]? = some (Cond.eq (.elem (.field (tmS i) "java/lang/String" "value" "[B") (.int (Int32.ofNat j))) (.int ((bytS.getD i []).getD j 0))) := by decide +kernel
theorem fs_nep : ∀ i, i < 13 → ∀ j, j < i → fl1[(neI.getD i []).getD j 0]? = some (Cond.not (Cond.eq (tmS j) (tmS i))) := by decide +kernel
theorem fs_unp : ∀ j, j < 6 → fl1[12 + j]? = some (Cond.eq (.elem (.static "SewsUpTheAfternoon" "UNDER" "[I") (.int (Int32.ofNat j))) (.int (undV j))) := by decide +kernel
theorem fs_uap : fl1[10]? = some (Cond.arrayOf (.static "SewsUpTheAfternoon" "UNDER" "[I") .int) ∧ fl1[11]? = some (Cond.eq (.length (.static "SewsUpTheAfternoon" "UNDER" "[I")) (.int (Int32.ofNat 6))) ∧ fl1[4]? = some (Cond.eq (.static "java/lang/String" "COMPACT_STRINGS" "Z") (.int 1)) ∧ fl1[5]? = some (Cond.isRef (.static "jdk/internal/util/Preconditions" "SIOOBE_FORMATTER" "Ljava/util/function/BiFunction;")) := by decide +kernel
theorem fs_ex : ∀ i, i < 13 → (Cond.exactly (tmS i) "java/lang/String") ∈ fl1 := fun i hi => List.mem_of_getElem? (fs_exp i hi)
theorem fs_co : ∀ i, i < 13 → (Cond.eq (.field (tmS i) "java/lang/String" "coder" "B") (.int 0)) ∈ fl1 := fun i hi => List.mem_of_getElem? (fs_cop i hi)
theorem fs_ar : ∀ i, i < 13 → (Cond.arrayOf (.field (tmS i) "java/lang/String" "value" "[B") .byte) ∈ fl1 := fun i hi => List.mem_of_getElem? (fs_arp i hi)
theorem fs_le : ∀ i, i < 13 → (Cond.eq (.length (.field (tmS i) "java/lang/String" "value" "[B")) (.int (Int32.ofNat (lenS.getD i 0)))) ∈ fl1 := fun i hi => List.mem_of_getElem? (fs_lep i hi)
theorem fs_el : ∀ i, i < 13 → ∀ j, j < lenS.getD i 0 → (Cond.eq (.elem (.field (tmS i) "java/lang/String" "value" "[B") (.int (Int32.ofNat j))) (.int ((bytS.getD i []).getD j 0))) ∈ fl1 := fun i hi j hj => List.mem_of_getElem? (fs_elp i hi j hj)
theorem fs_ne : ∀ i, i < 13 → ∀ j, j < 13 → i ≠ j → (Cond.not (Cond.eq (tmS i) (tmS j))) ∈ fl1 ∨ (Cond.not (Cond.eq (tmS j) (tmS i))) ∈ fl1 := fun i hi j hj hij => by
  rcases Nat.lt_or_ge i j with h | h
  · exact Or.inl (List.mem_of_getElem? (fs_nep j hj i h))
  · exact Or.inr (List.mem_of_getElem? (fs_nep i hi j (by omega)))
theorem fs_un : ∀ j, j < 6 → (Cond.eq (.elem (.static "SewsUpTheAfternoon" "UNDER" "[I") (.int (Int32.ofNat j))) (.int (undV j))) ∈ fl1 := fun j hj => List.mem_of_getElem? (fs_unp j hj)
theorem fs_ua : (Cond.arrayOf (.static "SewsUpTheAfternoon" "UNDER" "[I") .int) ∈ fl1 ∧ (Cond.eq (.length (.static "SewsUpTheAfternoon" "UNDER" "[I")) (.int (Int32.ofNat 6))) ∈ fl1 ∧ (Cond.eq (.static "java/lang/String" "COMPACT_STRINGS" "Z") (.int 1)) ∈ fl1 ∧ (Cond.isRef (.static "jdk/internal/util/Preconditions" "SIOOBE_FORMATTER" "Ljava/util/function/BiFunction;")) ∈ fl1 := ⟨List.mem_of_getElem? fs_uap.1, List.mem_of_getElem? fs_uap.2.1, List.mem_of_getElem? fs_uap.2.2.1, List.mem_of_getElem? fs_uap.2.2.2⟩
theorem fs_len : ∀ i, i < 13 → lenS.getD i 0 < 2 ^ 31 := by decide +kernel
theorem fs_refp : ∀ i, i < 13 → lw_tbl[[202, 281, 282, 283, 284, 285, 286, 287, 288, 289, 290, 291, 292].getD i 0]? = some (Cond.stringRef ((kS.getD i ("", 0, "")).1) ((kS.getD i ("", 0, "")).2.1) ((kS.getD i ("", 0, "")).2.2)) := by decide +kernel
theorem fs_ref : ∀ i, i < 13 → (Cond.stringRef ((kS.getD i ("", 0, "")).1) ((kS.getD i ("", 0, "")).2.1) ((kS.getD i ("", 0, "")).2.2)) ∈ lw_tbl := fun i hi => List.mem_of_getElem? (fs_refp i hi)
theorem lt_cs : Cond.laysStatic "java/lang/String" "COMPACT_STRINGS" "Z" ∈ lw_tbl := List.mem_of_getElem? (i := 212) (by decide +kernel)
theorem lt_si : Cond.laysStatic "jdk/internal/util/Preconditions" "SIOOBE_FORMATTER" "Ljava/util/function/BiFunction;" ∈ lw_tbl := List.mem_of_getElem? (i := 228) (by decide +kernel)
theorem lt_un : Cond.laysStatic RX5 "UNDER" "[I" ∈ lw_tbl := List.mem_of_getElem? (i := 805) (by decide +kernel)
theorem lt_o1 : Cond.arrayOver (.object RX1) ∈ lw_tbl := List.mem_of_getElem? (i := 381) (by decide +kernel)
theorem lt_o2 : Cond.arrayOver (.object RX2) ∈ lw_tbl := List.mem_of_getElem? (i := 128) (by decide +kernel)
theorem lt_o4 : Cond.arrayOver (.object RX4) ∈ lw_tbl := List.mem_of_getElem? (i := 126) (by decide +kernel)
set_option maxHeartbeats 4000000 in
theorem law_world {s : State} {b : Nat} (hts : ∀ w ∈ lw_tbl, w.before #[Value.ref b] s = true) (hgv : (Jvm.Cond.and given_1 narrow_1).before #[Value.ref b] s = true) : ∃ g : WG, va_K (gD g) vwCl (gtys g) s ∧ Ext g s ∧ AOs s ∧ gad g 1002 = b ∧ gA g = (fun q : Nat => s.heap.size ≤ q) := by
  have htT : ∀ w ∈ TT, w.before #[Value.ref b] s = true := fun w hw => hts w (List.mem_filter.mp hw).1
  have hs : ∀ w ∈ fl1, w.before #[Value.ref b] s = true := flat_of_before _ hgv
  have hA0 : ∀ a : Nat, a < s.heap.size → ¬ (fun q : Nat => s.heap.size ≤ q) a := fun a h q => absurd q (Nat.not_le.mpr h)
  obtain ⟨c0, i0, k0⟩ := u_known htT inX0 (htT _ ins_X0)
  obtain ⟨c1, i1, k1⟩ := u_known htT inX1 (htT _ ins_X1)
  obtain ⟨c2, i2, k2⟩ := u_known htT inX2 (htT _ ins_X2)
  obtain ⟨c3, i3, k3⟩ := u_known htT inX3 (htT _ ins_X3)
  obtain ⟨c4, i4, k4⟩ := u_known htT inX4 (htT _ ins_X4)
  obtain ⟨c5, i5, k5⟩ := u_known htT inX5 (htT _ ins_X5)
  obtain ⟨c6, i6, k6⟩ := u_known htT inX6 (htT _ ins_X6)
  obtain ⟨dC, dI, hKc⟩ : ∃ (dC : Nat → ClassId) (dI : Nat → Nat → Nat), ∀ (c : Nat) (q : vw_C), vwCl[c]? = some q → u_Kn s q.1 q.2.1 q.2.2 (dC c) (dI c) := by
    refine ⟨fun k => [c0, c1, c2, c3, c4, c5, c6].getD k c0, fun k => [i0, i1, i2, i3, i4, i5, i6].getD k i0, fun k q hq => ?_⟩
    match k, hq with
    | 0, hq => cases hq; exact k0
    | 1, hq => cases hq; exact k1
    | 2, hq => cases hq; exact k2
    | 3, hq => cases hq; exact k3
    | 4, hq => cases hq; exact k4
    | 5, hq => cases hq; exact k5
    | 6, hq => cases hq; exact k6
    | k + 7, hq => exact absurd hq (by simp [vwCl])
  have hO : AOs s := ⟨va_AO.of (hts _ lt_o1), va_AO.of (hts _ lt_o2), va_AO.of (hts _ lt_o4)⟩
  obtain ⟨a0, ka0, e0, n0, m0, q0⟩ := Cond.arrayClass_spec (htT _ ac_int)
  obtain ⟨a1, ka1, e1, n1, m1, q1⟩ := Cond.arrayClass_spec (htT _ ac_boo)
  obtain ⟨e2, a2, ka2, f2, -, m2, q2, n2⟩ := Cond.arrayOver_spec (hts _ lt_o1)
  obtain ⟨e3, a3, ka3, f3, -, m3, q3, n3⟩ := Cond.arrayOver_spec (hts _ lt_o2)
  obtain ⟨e4, a4, ka4, f4, -, m4, q4, n4⟩ := Cond.arrayOver_spec (hts _ lt_o4)
  obtain ⟨tU, evU, hU⟩ := va_Tof (tm := .static "SewsUpTheAfternoon" "UNDER" "[I") (ty := .int) (N := 6) (f := fun j => .int (undV j)) (A := fun q : Nat => s.heap.size ≤ q) (by decide) (hs _ fs_ua.1) (va_eqt (hs _ fs_ua.2.1)) (fun j hj => va_eqt (hs _ (fs_un j hj))) hA0
  obtain ⟨adK, adV, hKS, hev⟩ := vk_Sof (N := 13) (tm := tmS) (len := lenS) (byt := bytS) (A := fun q : Nat => s.heap.size ≤ q) fs_len (fun i hi => hs _ (fs_ex i hi)) (fun i hi => hs _ (fs_co i hi)) (fun i hi => hs _ (fs_ar i hi)) (fun i hi => hs _ (fs_le i hi)) (fun i hi j hj => hs _ (fs_el i hi j hj)) (fun i j hi hj hij => (fs_ne i hi j hj hij).imp (fun h => hs _ h) (fun h => hs _ h)) hA0
  obtain ⟨fl, tF, hF⟩ : ∃ fl tF : Nat, va_Z "jdk/internal/util/Preconditions" "SIOOBE_FORMATTER" "Ljava/util/function/BiFunction;" (if fl = 0 then .null else .ref tF) (fun q : Nat => s.heap.size ≤ q) s s.heap := by
    rcases va_Zqof (A := fun q : Nat => s.heap.size ≤ q) (hts _ lt_si) (htT _ ini_J3) (hs _ fs_ua.2.2.2) hA0 with h | ⟨t, h⟩
    · exact ⟨0, 0, by rw [if_pos rfl]; exact h⟩
    · exact ⟨1, t, by rw [if_neg (by decide)]; exact h⟩
  have eK : ∀ i, i < 13 → (if 200 + i = 1002 then b else if 200 + i = 1000 then tU else if 200 + i = 1001 then fl else if 200 + i = 1003 then tF else if 300 ≤ 200 + i then adV (200 + i - 300) else adK (200 + i - 200)) = adK i := fun i hi => by
    rw [if_neg (by omega), if_neg (by omega), if_neg (by omega), if_neg (by omega), if_neg (by omega), show 200 + i - 200 = i by omega]
  have eV : ∀ i, i < 13 → (if 300 + i = 1002 then b else if 300 + i = 1000 then tU else if 300 + i = 1001 then fl else if 300 + i = 1003 then tF else if 300 ≤ 300 + i then adV (300 + i - 300) else adK (300 + i - 200)) = adV i := fun i hi => by
    rw [if_neg (by omega), if_neg (by omega), if_neg (by omega), if_neg (by omega), if_pos (by omega), show 300 + i - 300 = i by omega]
  refine ⟨((dC, dI), fun k => [a0, a1, a2, a3, a4].getD k a0, fun q => if q = 1002 then b else if q = 1000 then tU else if q = 1001 then fl else if q = 1003 then tF else if 300 ≤ q then adV (q - 300) else adK (q - 200), [], fun q : Nat => s.heap.size ≤ q, fun _ => false), ⟨hKc, fun k q hq => ?_⟩, ⟨?_, ?_, ?_, fun i x hx => ?_, ?_, ?_, fun w hw => ?_⟩, hO, rfl, rfl⟩
  · match k, hq with
    | 0, hq => cases hq; exact ⟨fun N z => ⟨(fun k h => by cases h), ka0, m0, e0, q0⟩, n0⟩
    | 1, hq => cases hq; exact ⟨fun N z => ⟨(fun k h => by cases h), ka1, m1, e1, q1⟩, n1⟩
    | 2, hq => cases hq; exact ⟨fun N z => ⟨(fun k h => by cases h), ka2, m2, e2, q2⟩, ka2, e2, m2, q2, f2, n2⟩
    | 3, hq => cases hq; exact ⟨fun N z => ⟨(fun k h => by cases h), ka3, m3, e3, q3⟩, ka3, e3, m3, q3, f3, n3⟩
    | 4, hq => cases hq; exact ⟨fun N z => ⟨(fun k h => by cases h), ka4, m4, e4, q4⟩, ka4, e4, m4, q4, f4, n4⟩
    | k + 5, hq => exact absurd hq (by simp [gtys])
  · exact va_Zref (hts _ lt_un) (htT _ ini_X5) evU hA0
  · exact hU
  · refine ⟨fun i hi => ?_, fun i j hi hj e => hKS.2 i j hi hj ((eK i hi).symm.trans (e.trans (eK j hj)))⟩
    obtain ⟨z1, z2, z3, z4⟩ := hKS.1 i hi
    rw [← eK i hi] at z1 z2 z3
    rw [← eV i hi] at z3 z4
    exact ⟨z1, z2, z3, z4⟩
  · have hi : i < 13 := (List.getElem?_eq_some_iff.mp hx).1
    have ex : x = kS.getD i ("", 0, "") := by rw [List.getD_eq_getElem?_getD, hx]; rfl
    subst ex
    refine vk_R.of (hts _ (fs_ref i hi)) ?_
    rw [show gad _ (200 + i) = adK i from eK i hi]
    exact hev i hi
  · exact va_Zof (hts _ lt_cs) (htT _ ini_J0) (va_eqi (hs _ fs_ua.2.2.1)) hA0
  · exact hF
  · exact va_Nw.of (by
      have h1 := (List.mem_filter.mp hw).2
      cases w <;> first | exact (Bool.noConfusion h1) | rfl) (hts w (List.mem_filter.mp hw).1)
theorem law_end {p : Program} {l : Launch} {e : Env} {s : State} {m : MethodId} {below : List Frame} {meth : Method} {c : Code} {g : WG} {b k9 n9 : Nat} (hx : p.tables.exec = Jvm.exec) (hb : c.code = code) (hr : meth.sig.returnType = ret) (hlocks : meth.locks = false) (hgA : ∀ q, gA g q → s.heap.size ≤ q) (h1 : k9 ≤ 600000) (h2 : n9 ≤ 7302250) : Sk p l e room_1 s m #[Value.ref b] below meth c 4 g k9 n9 (lw_Z below #[Value.ref b] s) 961 (fun _ st _ => st = [.int 1]) := by
  intro lv st M H locs ls h hl hP hD hS
  subst h
  refine va_forget (fun q hq => hgA _ (hS.2.2 q hq)) ?_
  refine W.widen (k := 600000) (n := 7302250) h1 h2 ?_
  exact lw_ret hx hb hr hlocks dL_law_961
theorem law_loop {p : Program} {l : Launch} {e : Env} {s : State} {m : MethodId} {args : Array Value} {below : List Frame} {meth : Method} {c : Code} {g : WG} {k9 n9 : Nat} {Qf : State → Prop} {L : Nat} {xs : Nat → Int32} (C : Cx p s m args meth c cL_law 4 RL ret g) (hX : va_X (gad g 1002) L xs s s.heap) (hbl : gad g 1002 < s.heap.size) (hbA : ¬ gA g (gad g 1002)) (hg : Full g) (h1 : k9 ≤ room_1.cells) (h2 : n9 ≤ room_1.slots) (hL : L ≤ 3072) (kE : Sk p l e room_1 s m args below meth c 4 g k9 n9 Qf 961 (fun _ st _ => st = [.int 1])) :
    ∀ n i, L ≤ i + n → i ≤ L + 6 → Sk p l e room_1 s m args below meth c 4 g k9 n9 Qf 18 (fun lv st M => lv = [(0, .ref 1002), (1, .ref 0), (2, .ref 76), (3, .int (nI i))] ∧ st = [] ∧ J M) := by
  have k960 : Sk p l e room_1 s m args below meth c 4 g k9 n9 Qf 960 (fun _ st _ => st = []) := by
    refine z_of (P' := i_const 1 (fun _ st _ => st = [.int 1])) (fun lv st M h => ?_) (z_iconst C 1 dL_law_960 (by decide) kE)
    subst h
    rfl
  intro n
  induction n with
  | zero => exact fun i h3 h4 => law_step C hX hbl hbA hg h1 h2 (by omega) hL (fun _ _ => rfl) k960 (fun h => absurd h (by omega))
  | succ n ih => exact fun i h3 h4 => law_step C hX hbl hbA hg h1 h2 (by omega) hL (fun _ _ => rfl) k960 (fun h => ih (i + 6) (by omega) (by omega))
