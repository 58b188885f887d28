/-! the class's maker: the rule is read, three days are made -/
def X0 : XV := fun _ p => if p = 0 then [-1] else if p = 1 then [1, -1, -17] else [20]
set_option maxRecDepth 100000 in
set_option maxHeartbeats 4000000 in
theorem x5_c {p : Program} {l : Launch} {e : Env} {s : State} {m : MethodId} {args : Array Value} {below : List Frame} {meth : Method} {c : Code} {g : WG} {A : Nat → Prop} {Qf : State → Prop} {adr : Nat → Nat} {v3 v4 v5 : Value} {n6 : Int32} (C : Cx p s m args meth c cX5_init 2 RX5 none g) (hAg : ∀ q, A q → gA g q)
    (kk : ∀ M' : MM, Sm (YRd 8) (Mt 45) M' → M' 3 4 = 0 → txOK M' 8 → (∀ t, t < 3 → xc M' 8 t = X0 8 t) → SC p l e (rmK 57 75 3089) s m args below meth c 2 g A Qf 39 2801 136 [(0, .ref (adr 0)), (1, .int (nI 45))] [] (frA g adr [.ref (adr 1), .ref (adr 2), .ref (adr 3), v3, v4, v5, .int 1, .int 0] ++ wsM (mkg g adr idsA) M')) :
    SC p l e (rmK 57 75 3089) s m args below meth c 2 g A Qf 39 2801 117 [(0, .ref (adr 0)), (1, .int (nI 45))] [] (frA g adr [.ref (adr 1), .ref (adr 2), .ref (adr 3), v3, v4, v5, .int n6, .int 0] ++ wsM (mkg g adr idsA) (Mt 45)) := by
  refine c_D fun hD => ?_
  have hA2 := mkg_gA hD
  have hsub := mkg_sub (fun q hq => hAg q (hA2 q hq))
  refine c_aload C 0 dX5_init_117 rfl rfl ?_
  refine c_get C (.ref (adr 3)) 2 2 rfl inX5 rfl (by decide) fk_X5_24 rfl rfl dX5_init_118 ?_
  refine c_aload C 0 dX5_init_121 rfl rfl ?_
  refine c_get C (.ref (adr 1)) 2 0 rfl inX5 rfl (by decide) fk_X5_11 rfl rfl dX5_init_122 ?_
  refine c_iconst C 0 dX5_init_125 (by decide) ?_
  refine c_aald C (adr 8) 1 rfl rfl (by unfold vp_in; decide) rfl dX5_init_126 ?_
  refine c_ctN (q := 3) (ci := 3) (n := 1) [.ref 8] C hAg hsub (mkg_cell g adr idsA) (mkg_in g adr idsA) hA2 (regT g adr 3 (by decide) (by decide)).1 (by decide) (by decide) rfl (t_X3_read (regT g adr)) co_X3_read ini_X3 ⟨by decide, by decide, by decide +kernel⟩ (by decide) (by decide) mk_X5_48 im_X3_read rfl se_X3_read rfl (Nat.le_of_ble_eq_true rfl) (by decide) (by decide) dX5_init_127 ⟨8, 45, rfl, ⟨0, by decide, rfl⟩, Mt_3 45, by decide, fun m S V M' f hstr hsm h34 hcase => ?_⟩
  obtain ⟨r1, r2⟩ := rule_toks (fun j hj => Mt_4 hj) hstr
  rcases hcase with hF | ⟨rfl, cs, hG, -, -, htx, hxc⟩
  · obtain ⟨-, k, -, hF, -⟩ := hF
    exact absurd hF (r1 k)
  · obtain ⟨c0, c1, c2⟩ := r2 cs hG
    refine c_pop C (x := -1) dX5_init_130 ?_
    refine c_aload C 0 dX5_init_131 rfl rfl ?_
    refine c_iconst C 1 dX5_init_132 (by decide) ?_
    refine c_put C 2 6 (frA g adr [.ref (adr 1), .ref (adr 2), .ref (adr 3), v3, v4, v5, .int 1, .int 0] ++ wsM (mkg g adr idsA) M') rfl inX5 tyX5 tyX5_ok nmX5 rfl (by decide) fk_X5_52 rfl rfl (tyX5_ok 6 (by decide)) rfl rfl (Nat.le_of_ble_eq_true rfl) rfl dX5_init_133 ?_
    refine kk M' hsm h34 htx (fun t ht => ?_)
    rw [hxc t ht]
    have : t = 0 ∨ t = 1 ∨ t = 2 := by omega
    rcases this with rfl | rfl | rfl
    · rw [c0]; decide +kernel
    · rw [c1]; decide +kernel
    · rw [c2]; decide +kernel
set_option maxRecDepth 100000 in
set_option maxHeartbeats 4000000 in
theorem x5_d {p : Program} {l : Launch} {e : Env} {s : State} {m : MethodId} {args : Array Value} {below : List Frame} {meth : Method} {c : Code} {g : WG} {A : Nat → Prop} {Qf : State → Prop} {h tx sh tp t8 : Nat} {f1 f2 : Nat → Option Nat} {n1 : Int32} {X : va_W} (C : Cx p s m args meth c cX5_init 2 RX5 none g) (hI : meth.name = "<init>") (hO : AOs s) (hA : ∀ q, s.heap.size ≤ q → A q) (hAg : ∀ q, A q → gA g q) (hf1 : f1 (0 : Int32).toNatClampNeg = some t8)
    (kk : ∀ (o1 a2 a3 a4 a5 a6 a7 a8 a9 a10 a11 a12 o13 a14 a15 a16 a17 a18 a19 a20 a21 a22 a23 a24 o25 a26 a27 a28 a29 a30 a31 a32 a33 a34 a35 a36 : Nat), SC p l e (rmK 57 75 3089) s m args below meth c 2 g A Qf 75 3089 187 [(0, .ref h), (1, .int n1)] [] (dayW g t8 o25 a26 a27 a28 a29 a30 a31 a32 a33 a34 a35 a36 ++ (dayW g t8 o13 a14 a15 a16 a17 a18 a19 a20 a21 a22 a23 a24 ++ (dayW g t8 o1 a2 a3 a4 a5 a6 a7 a8 a9 a10 a11 a12 ++ ([(sh, .inl (gC g 3, 4, .inr (.inr (.inr (.inr (f2)))))), (tx, .inl (gC g 4, 6, .inr (.inr (.inr (.inr (f1)))))), (h, .inr (5, [.ref tx, .ref sh, .ref tp, .ref o1, .ref o13, .ref o25, .int 1, .int 0]))] ++ (X)))))) :
    SC p l e (rmK 57 75 3089) s m args below meth c 2 g A Qf 39 2801 136 [(0, .ref h), (1, .int n1)] [] ([(sh, .inl (gC g 3, 4, .inr (.inr (.inr (.inr (f2)))))), (tx, .inl (gC g 4, 6, .inr (.inr (.inr (.inr (f1)))))), (h, .inr (5, [.ref tx, .ref sh, .ref tp, .null, .null, .null, .int 1, .int 0]))] ++ (X)) := by
  refine c_aload C 0 dX5_init_136 rfl rfl ?_
  refine c_new C hA (ci := 0) (N := 9) [.null, .null, .null, .null, .null, .int 0, .int 0, .int 0, .int 0] rfl inX0 tyX0 tyX0_ok cl_X5_56 ins_X0 ini_X0 (by decide) dX5_init_137 (by decide) (by decide) (fun o1 => ?_)
  refine c_dup C dX5_init_140 ?_
  refine c_aload C 0 dX5_init_141 rfl rfl ?_
  refine c_get C (.ref tx) 3 0 rfl inX5 rfl (by decide) fk_X5_11 rfl rfl dX5_init_142 ?_
  refine c_iconst C 0 dX5_init_145 (by decide) ?_
  refine c_aald C t8 2 rfl rfl (by unfold vp_in; decide) hf1 dX5_init_146 ?_
  refine c_mkN (n := 1) [(o1, .inr (0, [.null, .null, .null, .null, .null, .int 0, .int 0, .int 0, .int 0]))] ([(sh, .inl (gC g 3, 4, .inr (.inr (.inr (.inr (f2)))))), (tx, .inl (gC g 4, 6, .inr (.inr (.inr (.inr (f1)))))), (h, .inr (5, [.ref tx, .ref sh, .ref tp, .null, .null, .null, .int 1, .int 0]))] ++ (X)) o1 [.ref o1, .ref h] [.ref t8] C hA hAg hO k_X0 ⟨co_X0_init, ini_X0, ⟨by decide, by decide, by decide +kernel⟩, by decide, by decide, rfl, im_X0_init⟩ mk_X5_58 rfl (Nat.le_of_ble_eq_true rfl) (by decide) (by decide) dX5_init_147 rfl rfl ⟨_, _, rfl, rfl, fun a2 a3 a4 a5 a6 a7 a8 a9 a10 a11 a12 => ?_⟩
  refine c_putF C hI 14 3 (dayW g t8 o1 a2 a3 a4 a5 a6 a7 a8 a9 a10 a11 a12 ++ ([(sh, .inl (gC g 3, 4, .inr (.inr (.inr (.inr (f2)))))), (tx, .inl (gC g 4, 6, .inr (.inr (.inr (.inr (f1)))))), (h, .inr (5, [.ref tx, .ref sh, .ref tp, .ref o1, .null, .null, .int 1, .int 0]))] ++ (X))) rfl inX5 tyX5 tyX5_ok nmX5 rfl (by decide) fk_X5_61 rfl rfl rfl (tyX5_ok 3 (by decide)) rfl rfl (Nat.le_of_ble_eq_true rfl) rfl dX5_init_150 ?_
  refine c_aload C 0 dX5_init_153 rfl rfl ?_
  refine c_new C hA (ci := 0) (N := 9) [.null, .null, .null, .null, .null, .int 0, .int 0, .int 0, .int 0] rfl inX0 tyX0 tyX0_ok cl_X5_56 ins_X0 ini_X0 (by decide) dX5_init_154 (by decide) (by decide) (fun o13 => ?_)
  refine c_dup C dX5_init_157 ?_
  refine c_aload C 0 dX5_init_158 rfl rfl ?_
  refine c_get C (.ref tx) 15 0 rfl inX5 rfl (by decide) fk_X5_11 rfl rfl dX5_init_159 ?_
  refine c_iconst C 0 dX5_init_162 (by decide) ?_
  refine c_aald C t8 14 rfl rfl (by unfold vp_in; decide) hf1 dX5_init_163 ?_
  refine c_mkN (n := 1) [(o13, .inr (0, [.null, .null, .null, .null, .null, .int 0, .int 0, .int 0, .int 0]))] (dayW g t8 o1 a2 a3 a4 a5 a6 a7 a8 a9 a10 a11 a12 ++ ([(sh, .inl (gC g 3, 4, .inr (.inr (.inr (.inr (f2)))))), (tx, .inl (gC g 4, 6, .inr (.inr (.inr (.inr (f1)))))), (h, .inr (5, [.ref tx, .ref sh, .ref tp, .ref o1, .null, .null, .int 1, .int 0]))] ++ (X))) o13 [.ref o13, .ref h] [.ref t8] C hA hAg hO k_X0 ⟨co_X0_init, ini_X0, ⟨by decide, by decide, by decide +kernel⟩, by decide, by decide, rfl, im_X0_init⟩ mk_X5_58 rfl (Nat.le_of_ble_eq_true rfl) (by decide) (by decide) dX5_init_164 rfl rfl ⟨_, _, rfl, rfl, fun a14 a15 a16 a17 a18 a19 a20 a21 a22 a23 a24 => ?_⟩
  refine c_putF C hI 26 4 (dayW g t8 o13 a14 a15 a16 a17 a18 a19 a20 a21 a22 a23 a24 ++ (dayW g t8 o1 a2 a3 a4 a5 a6 a7 a8 a9 a10 a11 a12 ++ ([(sh, .inl (gC g 3, 4, .inr (.inr (.inr (.inr (f2)))))), (tx, .inl (gC g 4, 6, .inr (.inr (.inr (.inr (f1)))))), (h, .inr (5, [.ref tx, .ref sh, .ref tp, .ref o1, .ref o13, .null, .int 1, .int 0]))] ++ (X)))) rfl inX5 tyX5 tyX5_ok nmX5 rfl (by decide) fk_X5_65 rfl rfl rfl (tyX5_ok 4 (by decide)) rfl rfl (Nat.le_of_ble_eq_true rfl) rfl dX5_init_167 ?_
  refine c_aload C 0 dX5_init_170 rfl rfl ?_
  refine c_new C hA (ci := 0) (N := 9) [.null, .null, .null, .null, .null, .int 0, .int 0, .int 0, .int 0] rfl inX0 tyX0 tyX0_ok cl_X5_56 ins_X0 ini_X0 (by decide) dX5_init_171 (by decide) (by decide) (fun o25 => ?_)
  refine c_dup C dX5_init_174 ?_
  refine c_aload C 0 dX5_init_175 rfl rfl ?_
  refine c_get C (.ref tx) 27 0 rfl inX5 rfl (by decide) fk_X5_11 rfl rfl dX5_init_176 ?_
  refine c_iconst C 0 dX5_init_179 (by decide) ?_
  refine c_aald C t8 26 rfl rfl (by unfold vp_in; decide) hf1 dX5_init_180 ?_
  refine c_mkN (n := 1) [(o25, .inr (0, [.null, .null, .null, .null, .null, .int 0, .int 0, .int 0, .int 0]))] (dayW g t8 o13 a14 a15 a16 a17 a18 a19 a20 a21 a22 a23 a24 ++ (dayW g t8 o1 a2 a3 a4 a5 a6 a7 a8 a9 a10 a11 a12 ++ ([(sh, .inl (gC g 3, 4, .inr (.inr (.inr (.inr (f2)))))), (tx, .inl (gC g 4, 6, .inr (.inr (.inr (.inr (f1)))))), (h, .inr (5, [.ref tx, .ref sh, .ref tp, .ref o1, .ref o13, .null, .int 1, .int 0]))] ++ (X)))) o25 [.ref o25, .ref h] [.ref t8] C hA hAg hO k_X0 ⟨co_X0_init, ini_X0, ⟨by decide, by decide, by decide +kernel⟩, by decide, by decide, rfl, im_X0_init⟩ mk_X5_58 rfl (Nat.le_of_ble_eq_true rfl) (by decide) (by decide) dX5_init_181 rfl rfl ⟨_, _, rfl, rfl, fun a26 a27 a28 a29 a30 a31 a32 a33 a34 a35 a36 => ?_⟩
  refine c_putF C hI 38 5 (dayW g t8 o25 a26 a27 a28 a29 a30 a31 a32 a33 a34 a35 a36 ++ (dayW g t8 o13 a14 a15 a16 a17 a18 a19 a20 a21 a22 a23 a24 ++ (dayW g t8 o1 a2 a3 a4 a5 a6 a7 a8 a9 a10 a11 a12 ++ ([(sh, .inl (gC g 3, 4, .inr (.inr (.inr (.inr (f2)))))), (tx, .inl (gC g 4, 6, .inr (.inr (.inr (.inr (f1)))))), (h, .inr (5, [.ref tx, .ref sh, .ref tp, .ref o1, .ref o13, .ref o25, .int 1, .int 0]))] ++ (X))))) rfl inX5 tyX5 tyX5_ok nmX5 rfl (by decide) fk_X5_68 rfl rfl rfl (tyX5_ok 5 (by decide)) rfl rfl (Nat.le_of_ble_eq_true rfl) rfl dX5_init_184 ?_
  exact kk o1 a2 a3 a4 a5 a6 a7 a8 a9 a10 a11 a12 o13 a14 a15 a16 a17 a18 a19 a20 a21 a22 a23 a24 o25 a26 a27 a28 a29 a30 a31 a32 a33 a34 a35 a36
