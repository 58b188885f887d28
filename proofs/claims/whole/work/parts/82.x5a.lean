/-! ===== the class's own maker ===== -/
theorem c_D {p : Program} {l : Launch} {e : Env} {R : Room} {s : State} {m : MethodId} {args : Array Value} {below : List Frame} {meth : Method} {c : Code} {g : WG} {A : Nat → Prop} {Qf : State → Prop} {nL ck cs pc : Nat} {lv : List (Nat × Value)} {st : List Value} {ws : va_W} (k : va_D A ws → SC p l e R s m args below meth c nL g A Qf ck cs pc lv st ws) : SC p l e R s m args below meth c nL g A Qf ck cs pc lv st ws := fun H locs ls hl hP hD hS => k hD H locs ls hl hP hD hS
def frA (g : WG) (adr : Nat → Nat) (fs : List Value) : va_W := [(adr 2, .inl (gC g 3, 4, .inr (.inr (.inr (.inr (fun i => some (adr (32 + 2 * i)))))))), (adr 1, .inl (gC g 4, 6, .inr (.inr (.inr (.inr (fun i => some (adr (8 + 4 * i)))))))), (adr 0, .inr (5, fs))]
set_option maxRecDepth 100000 in
set_option maxHeartbeats 4000000 in
theorem x5_a {p : Program} {l : Launch} {e : Env} {s : State} {m : MethodId} {args : Array Value} {below : List Frame} {meth : Method} {c : Code} {g : WG} {A : Nat → Prop} {Qf : State → Prop} {h : Nat} (C : Cx p s m args meth c cX5_init 2 RX5 none g) (hI : meth.name = "<init>") (hO : AOs s) (hA : ∀ q, s.heap.size ≤ q → A q) (hAg : ∀ q, A q → gA g q)
    (kk : ∀ adr : Nat → Nat, adr 0 = h → SC p l e (rmK 57 75 3089) s m args below meth c 2 g A Qf 39 2801 86 [(0, .ref (adr 0)), (1, .int 4)] [] (frA g adr [.ref (adr 1), .ref (adr 2), .ref (adr 3), .null, .null, .null, .int 0, .int 0] ++ wsM (mkg g adr idsA) M0)) :
    SC p l e (rmK 57 75 3089) s m args below meth c 2 g A Qf 0 0 0 [(0, .ref h)] [] [(h, .inr (5, [.null, .null, .null, .null, .null, .null, .int 0, .int 0]))] := by
  refine c_aload C 0 dX5_init_0 rfl rfl ?_
  refine c_obj C mk_X5_1 (by decide) (by decide) (Nat.le_of_ble_eq_true rfl) dX5_init_1 ?_
  refine c_aload C 0 dX5_init_4 rfl rfl ?_
  refine c_bipush C 6 dX5_init_5 (by decide) ?_
  refine c_newq C hA 4 6 rfl cl_X5_9 hO.2.2 dX5_init_7 (by decide) (by decide) (by decide) (by decide) (by decide) (fun a1 => ?_)
  refine c_putF C hI 1 0 ([(a1, .inl (gC g 4, 6, .inr (.inr (.inr (.inr (fun _ => none)))))), (h, .inr (5, [.ref a1, .null, .null, .null, .null, .null, .int 0, .int 0]))]) rfl inX5 tyX5 tyX5_ok nmX5 rfl (by decide) fk_X5_11 rfl rfl rfl (tyX5_ok 0 (by decide)) rfl rfl (Nat.le_of_ble_eq_true rfl) rfl dX5_init_10 ?_
  refine c_aload C 0 dX5_init_13 rfl rfl ?_
  refine c_iconst C 4 dX5_init_14 (by decide) ?_
  refine c_newq C hA 3 4 rfl cl_X5_15 hO.2.1 dX5_init_15 (by decide) (by decide) (by decide) (by decide) (by decide) (fun a2 => ?_)
  refine c_putF C hI 2 1 ([(a2, .inl (gC g 3, 4, .inr (.inr (.inr (.inr (fun _ => none)))))), (a1, .inl (gC g 4, 6, .inr (.inr (.inr (.inr (fun _ => none)))))), (h, .inr (5, [.ref a1, .ref a2, .null, .null, .null, .null, .int 0, .int 0]))]) rfl inX5 tyX5 tyX5_ok nmX5 rfl (by decide) fk_X5_17 rfl rfl rfl (tyX5_ok 1 (by decide)) rfl rfl (Nat.le_of_ble_eq_true rfl) rfl dX5_init_18 ?_
  refine c_aload C 0 dX5_init_21 rfl rfl ?_
  refine c_new C hA (ci := 3) (N := 8) [.null, .null, .null, .null, .int 0, .int 0, .int 0, .int 0] rfl inX3 tyX3 tyX3_ok cl_X5_21 ins_X3 ini_X3 (by decide) dX5_init_22 (by decide) (by decide) (fun o3 => ?_)
  refine c_dup C dX5_init_25 ?_
  refine c_mkN (n := 0) [(o3, .inr (3, [.null, .null, .null, .null, .int 0, .int 0, .int 0, .int 0]))] ([(a2, .inl (gC g 3, 4, .inr (.inr (.inr (.inr (fun _ => none)))))), (a1, .inl (gC g 4, 6, .inr (.inr (.inr (.inr (fun _ => none)))))), (h, .inr (5, [.ref a1, .ref a2, .null, .null, .null, .null, .int 0, .int 0]))]) o3 [.ref o3, .ref h] [] C hA hAg hO k_X3 ⟨co_X3_init, ini_X3, ⟨by decide, by decide, by decide +kernel⟩, by decide, by decide, rfl, im_X3_init⟩ mk_X5_23 rfl (Nat.le_of_ble_eq_true rfl) (by decide) (by decide) dX5_init_26 rfl rfl ⟨_, rfl, rfl, fun a4 a5 a6 a7 => ?_⟩
  refine c_putF C hI 7 2 (tapeW g o3 a4 a5 a6 a7 ++ ([(a2, .inl (gC g 3, 4, .inr (.inr (.inr (.inr (fun _ => none)))))), (a1, .inl (gC g 4, 6, .inr (.inr (.inr (.inr (fun _ => none)))))), (h, .inr (5, [.ref a1, .ref a2, .ref o3, .null, .null, .null, .int 0, .int 0]))])) rfl inX5 tyX5 tyX5_ok nmX5 rfl (by decide) fk_X5_24 rfl rfl rfl (tyX5_ok 2 (by decide)) rfl rfl (Nat.le_of_ble_eq_true rfl) rfl dX5_init_29 ?_
  refine c_iconst C 0 dX5_init_32 (by decide) ?_
  refine c_istore C 1 [(0, .ref h), (1, .int 0)] dX5_init_33 rfl (by decide) rfl ?_
  refine c_iload C 1 dX5_init_34 rfl rfl ?_
  refine c_bipush C 6 dX5_init_35 (by decide) ?_
  refine c_icmp_ge C dX5_init_37 (tgt := 60) (by decide) (fun q => absurd q (by decide)) (fun _ => ?_)
  refine c_aload C 0 dX5_init_40 rfl rfl ?_
  refine c_get C (.ref a1) 7 0 rfl inX5 rfl (by decide) fk_X5_11 rfl rfl dX5_init_41 ?_
  refine c_iload C 1 dX5_init_44 rfl rfl ?_
  refine c_new C hA (ci := 4) (N := 5) [.int 0, .null, .null, .null, .int 0] rfl inX4 tyX4 tyX4_ok cl_X5_9 ins_X4 ini_X4 (by decide) dX5_init_45 (by decide) (by decide) (fun o8 => ?_)
  refine c_dup C dX5_init_48 ?_
  refine c_iload C 1 dX5_init_49 rfl rfl ?_
  refine c_mkN (n := 1) [(o8, .inr (4, [.int 0, .null, .null, .null, .int 0]))] (tapeW g o3 a4 a5 a6 a7 ++ ([(a2, .inl (gC g 3, 4, .inr (.inr (.inr (.inr (fun _ => none)))))), (a1, .inl (gC g 4, 6, .inr (.inr (.inr (.inr (fun _ => none)))))), (h, .inr (5, [.ref a1, .ref a2, .ref o3, .null, .null, .null, .int 0, .int 0]))])) o8 [.ref o8, .int 0, .ref a1] [.int 0] C hA hAg hO k_X4 ⟨co_X4_init, ini_X4, ⟨by decide, by decide, by decide +kernel⟩, by decide, by decide, rfl, im_X4_init⟩ mk_X5_28 rfl (Nat.le_of_ble_eq_true rfl) (by decide) (by decide) dX5_init_50 rfl rfl ⟨_, _, rfl, rfl, fun a9 a10 a11 => ?_⟩
  refine c_aast C (t := 4) (ci := 4) 10 3 (textW g (0) o8 a9 a10 a11 ++ (tapeW g o3 a4 a5 a6 a7 ++ ([(a2, .inl (gC g 3, 4, .inr (.inr (.inr (.inr (fun _ => none)))))), (a1, .inl (gC g 4, 6, .inr (.inr (.inr (.inr (va_up (fun _ => none) 0 (some o8))))))), (h, .inr (5, [.ref a1, .ref a2, .ref o3, .null, .null, .null, .int 0, .int 0]))]))) rfl rfl rfl rfl (by unfold vp_in; decide) rfl dX5_init_53 ?_
  refine c_iinc C (v := 1) 1 [(0, .ref h), (1, .int 1)] dX5_init_54 rfl (by decide) (by decide) rfl ?_
  refine c_goto C dX5_init_57 (tgt := 34) (by decide) ?_
  refine c_iload C 1 dX5_init_34 rfl rfl ?_
  refine c_bipush C 6 dX5_init_35 (by decide) ?_
  refine c_icmp_ge C dX5_init_37 (tgt := 60) (by decide) (fun q => absurd q (by decide)) (fun _ => ?_)
  refine c_aload C 0 dX5_init_40 rfl rfl ?_
  refine c_get C (.ref a1) 11 0 rfl inX5 rfl (by decide) fk_X5_11 rfl rfl dX5_init_41 ?_
  refine c_iload C 1 dX5_init_44 rfl rfl ?_
  refine c_new C hA (ci := 4) (N := 5) [.int 0, .null, .null, .null, .int 0] rfl inX4 tyX4 tyX4_ok cl_X5_9 ins_X4 ini_X4 (by decide) dX5_init_45 (by decide) (by decide) (fun o12 => ?_)
  refine c_dup C dX5_init_48 ?_
  refine c_iload C 1 dX5_init_49 rfl rfl ?_
  refine c_mkN (n := 1) [(o12, .inr (4, [.int 0, .null, .null, .null, .int 0]))] (textW g (0) o8 a9 a10 a11 ++ (tapeW g o3 a4 a5 a6 a7 ++ ([(a2, .inl (gC g 3, 4, .inr (.inr (.inr (.inr (fun _ => none)))))), (a1, .inl (gC g 4, 6, .inr (.inr (.inr (.inr (va_up (fun _ => none) 0 (some o8))))))), (h, .inr (5, [.ref a1, .ref a2, .ref o3, .null, .null, .null, .int 0, .int 0]))]))) o12 [.ref o12, .int 1, .ref a1] [.int 1] C hA hAg hO k_X4 ⟨co_X4_init, ini_X4, ⟨by decide, by decide, by decide +kernel⟩, by decide, by decide, rfl, im_X4_init⟩ mk_X5_28 rfl (Nat.le_of_ble_eq_true rfl) (by decide) (by decide) dX5_init_50 rfl rfl ⟨_, _, rfl, rfl, fun a13 a14 a15 => ?_⟩
  refine c_aast C (t := 4) (ci := 4) 14 3 (textW g (1) o12 a13 a14 a15 ++ (textW g (0) o8 a9 a10 a11 ++ (tapeW g o3 a4 a5 a6 a7 ++ ([(a2, .inl (gC g 3, 4, .inr (.inr (.inr (.inr (fun _ => none)))))), (a1, .inl (gC g 4, 6, .inr (.inr (.inr (.inr (va_up (va_up (fun _ => none) 0 (some o8)) 1 (some o12))))))), (h, .inr (5, [.ref a1, .ref a2, .ref o3, .null, .null, .null, .int 0, .int 0]))])))) rfl rfl rfl rfl (by unfold vp_in; decide) rfl dX5_init_53 ?_
  refine c_iinc C (v := 2) 1 [(0, .ref h), (1, .int 2)] dX5_init_54 rfl (by decide) (by decide) rfl ?_
  refine c_goto C dX5_init_57 (tgt := 34) (by decide) ?_
  refine c_iload C 1 dX5_init_34 rfl rfl ?_
  refine c_bipush C 6 dX5_init_35 (by decide) ?_
  refine c_icmp_ge C dX5_init_37 (tgt := 60) (by decide) (fun q => absurd q (by decide)) (fun _ => ?_)
  refine c_aload C 0 dX5_init_40 rfl rfl ?_
  refine c_get C (.ref a1) 15 0 rfl inX5 rfl (by decide) fk_X5_11 rfl rfl dX5_init_41 ?_
  refine c_iload C 1 dX5_init_44 rfl rfl ?_
  refine c_new C hA (ci := 4) (N := 5) [.int 0, .null, .null, .null, .int 0] rfl inX4 tyX4 tyX4_ok cl_X5_9 ins_X4 ini_X4 (by decide) dX5_init_45 (by decide) (by decide) (fun o16 => ?_)
  refine c_dup C dX5_init_48 ?_
  refine c_iload C 1 dX5_init_49 rfl rfl ?_
  refine c_mkN (n := 1) [(o16, .inr (4, [.int 0, .null, .null, .null, .int 0]))] (textW g (1) o12 a13 a14 a15 ++ (textW g (0) o8 a9 a10 a11 ++ (tapeW g o3 a4 a5 a6 a7 ++ ([(a2, .inl (gC g 3, 4, .inr (.inr (.inr (.inr (fun _ => none)))))), (a1, .inl (gC g 4, 6, .inr (.inr (.inr (.inr (va_up (va_up (fun _ => none) 0 (some o8)) 1 (some o12))))))), (h, .inr (5, [.ref a1, .ref a2, .ref o3, .null, .null, .null, .int 0, .int 0]))])))) o16 [.ref o16, .int 2, .ref a1] [.int 2] C hA hAg hO k_X4 ⟨co_X4_init, ini_X4, ⟨by decide, by decide, by decide +kernel⟩, by decide, by decide, rfl, im_X4_init⟩ mk_X5_28 rfl (Nat.le_of_ble_eq_true rfl) (by decide) (by decide) dX5_init_50 rfl rfl ⟨_, _, rfl, rfl, fun a17 a18 a19 => ?_⟩
  refine c_aast C (t := 4) (ci := 4) 18 3 (textW g (2) o16 a17 a18 a19 ++ (textW g (1) o12 a13 a14 a15 ++ (textW g (0) o8 a9 a10 a11 ++ (tapeW g o3 a4 a5 a6 a7 ++ ([(a2, .inl (gC g 3, 4, .inr (.inr (.inr (.inr (fun _ => none)))))), (a1, .inl (gC g 4, 6, .inr (.inr (.inr (.inr (va_up (va_up (va_up (fun _ => none) 0 (some o8)) 1 (some o12)) 2 (some o16))))))), (h, .inr (5, [.ref a1, .ref a2, .ref o3, .null, .null, .null, .int 0, .int 0]))]))))) rfl rfl rfl rfl (by unfold vp_in; decide) rfl dX5_init_53 ?_
  refine c_iinc C (v := 3) 1 [(0, .ref h), (1, .int 3)] dX5_init_54 rfl (by decide) (by decide) rfl ?_
  refine c_goto C dX5_init_57 (tgt := 34) (by decide) ?_
  refine c_iload C 1 dX5_init_34 rfl rfl ?_
  refine c_bipush C 6 dX5_init_35 (by decide) ?_
  refine c_icmp_ge C dX5_init_37 (tgt := 60) (by decide) (fun q => absurd q (by decide)) (fun _ => ?_)
  refine c_aload C 0 dX5_init_40 rfl rfl ?_
  refine c_get C (.ref a1) 19 0 rfl inX5 rfl (by decide) fk_X5_11 rfl rfl dX5_init_41 ?_
  refine c_iload C 1 dX5_init_44 rfl rfl ?_
  refine c_new C hA (ci := 4) (N := 5) [.int 0, .null, .null, .null, .int 0] rfl inX4 tyX4 tyX4_ok cl_X5_9 ins_X4 ini_X4 (by decide) dX5_init_45 (by decide) (by decide) (fun o20 => ?_)
  refine c_dup C dX5_init_48 ?_
  refine c_iload C 1 dX5_init_49 rfl rfl ?_
  refine c_mkN (n := 1) [(o20, .inr (4, [.int 0, .null, .null, .null, .int 0]))] (textW g (2) o16 a17 a18 a19 ++ (textW g (1) o12 a13 a14 a15 ++ (textW g (0) o8 a9 a10 a11 ++ (tapeW g o3 a4 a5 a6 a7 ++ ([(a2, .inl (gC g 3, 4, .inr (.inr (.inr (.inr (fun _ => none)))))), (a1, .inl (gC g 4, 6, .inr (.inr (.inr (.inr (va_up (va_up (va_up (fun _ => none) 0 (some o8)) 1 (some o12)) 2 (some o16))))))), (h, .inr (5, [.ref a1, .ref a2, .ref o3, .null, .null, .null, .int 0, .int 0]))]))))) o20 [.ref o20, .int 3, .ref a1] [.int 3] C hA hAg hO k_X4 ⟨co_X4_init, ini_X4, ⟨by decide, by decide, by decide +kernel⟩, by decide, by decide, rfl, im_X4_init⟩ mk_X5_28 rfl (Nat.le_of_ble_eq_true rfl) (by decide) (by decide) dX5_init_50 rfl rfl ⟨_, _, rfl, rfl, fun a21 a22 a23 => ?_⟩
  refine c_aast C (t := 4) (ci := 4) 22 3 (textW g (3) o20 a21 a22 a23 ++ (textW g (2) o16 a17 a18 a19 ++ (textW g (1) o12 a13 a14 a15 ++ (textW g (0) o8 a9 a10 a11 ++ (tapeW g o3 a4 a5 a6 a7 ++ ([(a2, .inl (gC g 3, 4, .inr (.inr (.inr (.inr (fun _ => none)))))), (a1, .inl (gC g 4, 6, .inr (.inr (.inr (.inr (va_up (va_up (va_up (va_up (fun _ => none) 0 (some o8)) 1 (some o12)) 2 (some o16)) 3 (some o20))))))), (h, .inr (5, [.ref a1, .ref a2, .ref o3, .null, .null, .null, .int 0, .int 0]))])))))) rfl rfl rfl rfl (by unfold vp_in; decide) rfl dX5_init_53 ?_
  refine c_iinc C (v := 4) 1 [(0, .ref h), (1, .int 4)] dX5_init_54 rfl (by decide) (by decide) rfl ?_
  refine c_goto C dX5_init_57 (tgt := 34) (by decide) ?_
  refine c_iload C 1 dX5_init_34 rfl rfl ?_
  refine c_bipush C 6 dX5_init_35 (by decide) ?_
  refine c_icmp_ge C dX5_init_37 (tgt := 60) (by decide) (fun q => absurd q (by decide)) (fun _ => ?_)
  refine c_aload C 0 dX5_init_40 rfl rfl ?_
  refine c_get C (.ref a1) 23 0 rfl inX5 rfl (by decide) fk_X5_11 rfl rfl dX5_init_41 ?_
  refine c_iload C 1 dX5_init_44 rfl rfl ?_
  refine c_new C hA (ci := 4) (N := 5) [.int 0, .null, .null, .null, .int 0] rfl inX4 tyX4 tyX4_ok cl_X5_9 ins_X4 ini_X4 (by decide) dX5_init_45 (by decide) (by decide) (fun o24 => ?_)
  refine c_dup C dX5_init_48 ?_
  refine c_iload C 1 dX5_init_49 rfl rfl ?_
  refine c_mkN (n := 1) [(o24, .inr (4, [.int 0, .null, .null, .null, .int 0]))] (textW g (3) o20 a21 a22 a23 ++ (textW g (2) o16 a17 a18 a19 ++ (textW g (1) o12 a13 a14 a15 ++ (textW g (0) o8 a9 a10 a11 ++ (tapeW g o3 a4 a5 a6 a7 ++ ([(a2, .inl (gC g 3, 4, .inr (.inr (.inr (.inr (fun _ => none)))))), (a1, .inl (gC g 4, 6, .inr (.inr (.inr (.inr (va_up (va_up (va_up (va_up (fun _ => none) 0 (some o8)) 1 (some o12)) 2 (some o16)) 3 (some o20))))))), (h, .inr (5, [.ref a1, .ref a2, .ref o3, .null, .null, .null, .int 0, .int 0]))])))))) o24 [.ref o24, .int 4, .ref a1] [.int 4] C hA hAg hO k_X4 ⟨co_X4_init, ini_X4, ⟨by decide, by decide, by decide +kernel⟩, by decide, by decide, rfl, im_X4_init⟩ mk_X5_28 rfl (Nat.le_of_ble_eq_true rfl) (by decide) (by decide) dX5_init_50 rfl rfl ⟨_, _, rfl, rfl, fun a25 a26 a27 => ?_⟩
  refine c_aast C (t := 4) (ci := 4) 26 3 (textW g (4) o24 a25 a26 a27 ++ (textW g (3) o20 a21 a22 a23 ++ (textW g (2) o16 a17 a18 a19 ++ (textW g (1) o12 a13 a14 a15 ++ (textW g (0) o8 a9 a10 a11 ++ (tapeW g o3 a4 a5 a6 a7 ++ ([(a2, .inl (gC g 3, 4, .inr (.inr (.inr (.inr (fun _ => none)))))), (a1, .inl (gC g 4, 6, .inr (.inr (.inr (.inr (va_up (va_up (va_up (va_up (va_up (fun _ => none) 0 (some o8)) 1 (some o12)) 2 (some o16)) 3 (some o20)) 4 (some o24))))))), (h, .inr (5, [.ref a1, .ref a2, .ref o3, .null, .null, .null, .int 0, .int 0]))]))))))) rfl rfl rfl rfl (by unfold vp_in; decide) rfl dX5_init_53 ?_
  refine c_iinc C (v := 5) 1 [(0, .ref h), (1, .int 5)] dX5_init_54 rfl (by decide) (by decide) rfl ?_
  refine c_goto C dX5_init_57 (tgt := 34) (by decide) ?_
  refine c_iload C 1 dX5_init_34 rfl rfl ?_
  refine c_bipush C 6 dX5_init_35 (by decide) ?_
  refine c_icmp_ge C dX5_init_37 (tgt := 60) (by decide) (fun q => absurd q (by decide)) (fun _ => ?_)
  refine c_aload C 0 dX5_init_40 rfl rfl ?_
  refine c_get C (.ref a1) 27 0 rfl inX5 rfl (by decide) fk_X5_11 rfl rfl dX5_init_41 ?_
  refine c_iload C 1 dX5_init_44 rfl rfl ?_
  refine c_new C hA (ci := 4) (N := 5) [.int 0, .null, .null, .null, .int 0] rfl inX4 tyX4 tyX4_ok cl_X5_9 ins_X4 ini_X4 (by decide) dX5_init_45 (by decide) (by decide) (fun o28 => ?_)
  refine c_dup C dX5_init_48 ?_
  refine c_iload C 1 dX5_init_49 rfl rfl ?_
  refine c_mkN (n := 1) [(o28, .inr (4, [.int 0, .null, .null, .null, .int 0]))] (textW g (4) o24 a25 a26 a27 ++ (textW g (3) o20 a21 a22 a23 ++ (textW g (2) o16 a17 a18 a19 ++ (textW g (1) o12 a13 a14 a15 ++ (textW g (0) o8 a9 a10 a11 ++ (tapeW g o3 a4 a5 a6 a7 ++ ([(a2, .inl (gC g 3, 4, .inr (.inr (.inr (.inr (fun _ => none)))))), (a1, .inl (gC g 4, 6, .inr (.inr (.inr (.inr (va_up (va_up (va_up (va_up (va_up (fun _ => none) 0 (some o8)) 1 (some o12)) 2 (some o16)) 3 (some o20)) 4 (some o24))))))), (h, .inr (5, [.ref a1, .ref a2, .ref o3, .null, .null, .null, .int 0, .int 0]))]))))))) o28 [.ref o28, .int 5, .ref a1] [.int 5] C hA hAg hO k_X4 ⟨co_X4_init, ini_X4, ⟨by decide, by decide, by decide +kernel⟩, by decide, by decide, rfl, im_X4_init⟩ mk_X5_28 rfl (Nat.le_of_ble_eq_true rfl) (by decide) (by decide) dX5_init_50 rfl rfl ⟨_, _, rfl, rfl, fun a29 a30 a31 => ?_⟩
  refine c_aast C (t := 4) (ci := 4) 30 3 (textW g (5) o28 a29 a30 a31 ++ (textW g (4) o24 a25 a26 a27 ++ (textW g (3) o20 a21 a22 a23 ++ (textW g (2) o16 a17 a18 a19 ++ (textW g (1) o12 a13 a14 a15 ++ (textW g (0) o8 a9 a10 a11 ++ (tapeW g o3 a4 a5 a6 a7 ++ ([(a2, .inl (gC g 3, 4, .inr (.inr (.inr (.inr (fun _ => none)))))), (a1, .inl (gC g 4, 6, .inr (.inr (.inr (.inr (va_up (va_up (va_up (va_up (va_up (va_up (fun _ => none) 0 (some o8)) 1 (some o12)) 2 (some o16)) 3 (some o20)) 4 (some o24)) 5 (some o28))))))), (h, .inr (5, [.ref a1, .ref a2, .ref o3, .null, .null, .null, .int 0, .int 0]))])))))))) rfl rfl rfl rfl (by unfold vp_in; decide) rfl dX5_init_53 ?_
  refine c_iinc C (v := 6) 1 [(0, .ref h), (1, .int 6)] dX5_init_54 rfl (by decide) (by decide) rfl ?_
  refine c_goto C dX5_init_57 (tgt := 34) (by decide) ?_
  refine c_iload C 1 dX5_init_34 rfl rfl ?_
  refine c_bipush C 6 dX5_init_35 (by decide) ?_
  refine c_icmp_ge C dX5_init_37 (tgt := 60) (by decide) (fun _ => ?_) (fun q => absurd (by decide) q)
  refine c_iconst C 0 dX5_init_60 (by decide) ?_
  refine c_istore C 1 [(0, .ref h), (1, .int 0)] dX5_init_61 rfl (by decide) rfl ?_
  refine c_iload C 1 dX5_init_62 rfl rfl ?_
  refine c_iconst C 4 dX5_init_63 (by decide) ?_
  refine c_icmp_ge C dX5_init_64 (tgt := 86) (by decide) (fun q => absurd q (by decide)) (fun _ => ?_)
  refine c_aload C 0 dX5_init_67 rfl rfl ?_
  refine c_get C (.ref a2) 31 1 rfl inX5 rfl (by decide) fk_X5_17 rfl rfl dX5_init_68 ?_
  refine c_iload C 1 dX5_init_71 rfl rfl ?_
  refine c_new C hA (ci := 2) (N := 3) [.null, .int 0, .int 0] rfl inX2 tyX2 tyX2_ok cl_X5_15 ins_X2 ini_X2 (by decide) dX5_init_72 (by decide) (by decide) (fun o32 => ?_)
  refine c_dup C dX5_init_75 ?_
  refine c_mkN (n := 0) [(o32, .inr (2, [.null, .int 0, .int 0]))] (textW g (5) o28 a29 a30 a31 ++ (textW g (4) o24 a25 a26 a27 ++ (textW g (3) o20 a21 a22 a23 ++ (textW g (2) o16 a17 a18 a19 ++ (textW g (1) o12 a13 a14 a15 ++ (textW g (0) o8 a9 a10 a11 ++ (tapeW g o3 a4 a5 a6 a7 ++ ([(a2, .inl (gC g 3, 4, .inr (.inr (.inr (.inr (fun _ => none)))))), (a1, .inl (gC g 4, 6, .inr (.inr (.inr (.inr (va_up (va_up (va_up (va_up (va_up (va_up (fun _ => none) 0 (some o8)) 1 (some o12)) 2 (some o16)) 3 (some o20)) 4 (some o24)) 5 (some o28))))))), (h, .inr (5, [.ref a1, .ref a2, .ref o3, .null, .null, .null, .int 0, .int 0]))])))))))) o32 [.ref o32, .int 0, .ref a2] [] C hA hAg hO k_X2 ⟨co_X2_init, ini_X2, ⟨by decide, by decide, by decide +kernel⟩, by decide, by decide, rfl, im_X2_init⟩ mk_X5_31 rfl (Nat.le_of_ble_eq_true rfl) (by decide) (by decide) dX5_init_76 rfl rfl ⟨_, rfl, rfl, fun a33 => ?_⟩
  refine c_aast C (t := 3) (ci := 2) 31 1 (sheetW g o32 a33 ++ (textW g (5) o28 a29 a30 a31 ++ (textW g (4) o24 a25 a26 a27 ++ (textW g (3) o20 a21 a22 a23 ++ (textW g (2) o16 a17 a18 a19 ++ (textW g (1) o12 a13 a14 a15 ++ (textW g (0) o8 a9 a10 a11 ++ (tapeW g o3 a4 a5 a6 a7 ++ ([(a2, .inl (gC g 3, 4, .inr (.inr (.inr (.inr (va_up (fun _ => none) 0 (some o32))))))), (a1, .inl (gC g 4, 6, .inr (.inr (.inr (.inr (va_up (va_up (va_up (va_up (va_up (va_up (fun _ => none) 0 (some o8)) 1 (some o12)) 2 (some o16)) 3 (some o20)) 4 (some o24)) 5 (some o28))))))), (h, .inr (5, [.ref a1, .ref a2, .ref o3, .null, .null, .null, .int 0, .int 0]))]))))))))) rfl rfl rfl rfl (by unfold vp_in; decide) rfl dX5_init_79 ?_
  refine c_iinc C (v := 1) 1 [(0, .ref h), (1, .int 1)] dX5_init_80 rfl (by decide) (by decide) rfl ?_
  refine c_goto C dX5_init_83 (tgt := 62) (by decide) ?_
  refine c_iload C 1 dX5_init_62 rfl rfl ?_
  refine c_iconst C 4 dX5_init_63 (by decide) ?_
  refine c_icmp_ge C dX5_init_64 (tgt := 86) (by decide) (fun q => absurd q (by decide)) (fun _ => ?_)
  refine c_aload C 0 dX5_init_67 rfl rfl ?_
  refine c_get C (.ref a2) 33 1 rfl inX5 rfl (by decide) fk_X5_17 rfl rfl dX5_init_68 ?_
  refine c_iload C 1 dX5_init_71 rfl rfl ?_
  refine c_new C hA (ci := 2) (N := 3) [.null, .int 0, .int 0] rfl inX2 tyX2 tyX2_ok cl_X5_15 ins_X2 ini_X2 (by decide) dX5_init_72 (by decide) (by decide) (fun o34 => ?_)
  refine c_dup C dX5_init_75 ?_
  refine c_mkN (n := 0) [(o34, .inr (2, [.null, .int 0, .int 0]))] (sheetW g o32 a33 ++ (textW g (5) o28 a29 a30 a31 ++ (textW g (4) o24 a25 a26 a27 ++ (textW g (3) o20 a21 a22 a23 ++ (textW g (2) o16 a17 a18 a19 ++ (textW g (1) o12 a13 a14 a15 ++ (textW g (0) o8 a9 a10 a11 ++ (tapeW g o3 a4 a5 a6 a7 ++ ([(a2, .inl (gC g 3, 4, .inr (.inr (.inr (.inr (va_up (fun _ => none) 0 (some o32))))))), (a1, .inl (gC g 4, 6, .inr (.inr (.inr (.inr (va_up (va_up (va_up (va_up (va_up (va_up (fun _ => none) 0 (some o8)) 1 (some o12)) 2 (some o16)) 3 (some o20)) 4 (some o24)) 5 (some o28))))))), (h, .inr (5, [.ref a1, .ref a2, .ref o3, .null, .null, .null, .int 0, .int 0]))]))))))))) o34 [.ref o34, .int 1, .ref a2] [] C hA hAg hO k_X2 ⟨co_X2_init, ini_X2, ⟨by decide, by decide, by decide +kernel⟩, by decide, by decide, rfl, im_X2_init⟩ mk_X5_31 rfl (Nat.le_of_ble_eq_true rfl) (by decide) (by decide) dX5_init_76 rfl rfl ⟨_, rfl, rfl, fun a35 => ?_⟩
  refine c_aast C (t := 3) (ci := 2) 33 1 (sheetW g o34 a35 ++ (sheetW g o32 a33 ++ (textW g (5) o28 a29 a30 a31 ++ (textW g (4) o24 a25 a26 a27 ++ (textW g (3) o20 a21 a22 a23 ++ (textW g (2) o16 a17 a18 a19 ++ (textW g (1) o12 a13 a14 a15 ++ (textW g (0) o8 a9 a10 a11 ++ (tapeW g o3 a4 a5 a6 a7 ++ ([(a2, .inl (gC g 3, 4, .inr (.inr (.inr (.inr (va_up (va_up (fun _ => none) 0 (some o32)) 1 (some o34))))))), (a1, .inl (gC g 4, 6, .inr (.inr (.inr (.inr (va_up (va_up (va_up (va_up (va_up (va_up (fun _ => none) 0 (some o8)) 1 (some o12)) 2 (some o16)) 3 (some o20)) 4 (some o24)) 5 (some o28))))))), (h, .inr (5, [.ref a1, .ref a2, .ref o3, .null, .null, .null, .int 0, .int 0]))])))))))))) rfl rfl rfl rfl (by unfold vp_in; decide) rfl dX5_init_79 ?_
  refine c_iinc C (v := 2) 1 [(0, .ref h), (1, .int 2)] dX5_init_80 rfl (by decide) (by decide) rfl ?_
  refine c_goto C dX5_init_83 (tgt := 62) (by decide) ?_
  refine c_iload C 1 dX5_init_62 rfl rfl ?_
  refine c_iconst C 4 dX5_init_63 (by decide) ?_
  refine c_icmp_ge C dX5_init_64 (tgt := 86) (by decide) (fun q => absurd q (by decide)) (fun _ => ?_)
  refine c_aload C 0 dX5_init_67 rfl rfl ?_
  refine c_get C (.ref a2) 35 1 rfl inX5 rfl (by decide) fk_X5_17 rfl rfl dX5_init_68 ?_
  refine c_iload C 1 dX5_init_71 rfl rfl ?_
  refine c_new C hA (ci := 2) (N := 3) [.null, .int 0, .int 0] rfl inX2 tyX2 tyX2_ok cl_X5_15 ins_X2 ini_X2 (by decide) dX5_init_72 (by decide) (by decide) (fun o36 => ?_)
  refine c_dup C dX5_init_75 ?_
  refine c_mkN (n := 0) [(o36, .inr (2, [.null, .int 0, .int 0]))] (sheetW g o34 a35 ++ (sheetW g o32 a33 ++ (textW g (5) o28 a29 a30 a31 ++ (textW g (4) o24 a25 a26 a27 ++ (textW g (3) o20 a21 a22 a23 ++ (textW g (2) o16 a17 a18 a19 ++ (textW g (1) o12 a13 a14 a15 ++ (textW g (0) o8 a9 a10 a11 ++ (tapeW g o3 a4 a5 a6 a7 ++ ([(a2, .inl (gC g 3, 4, .inr (.inr (.inr (.inr (va_up (va_up (fun _ => none) 0 (some o32)) 1 (some o34))))))), (a1, .inl (gC g 4, 6, .inr (.inr (.inr (.inr (va_up (va_up (va_up (va_up (va_up (va_up (fun _ => none) 0 (some o8)) 1 (some o12)) 2 (some o16)) 3 (some o20)) 4 (some o24)) 5 (some o28))))))), (h, .inr (5, [.ref a1, .ref a2, .ref o3, .null, .null, .null, .int 0, .int 0]))])))))))))) o36 [.ref o36, .int 2, .ref a2] [] C hA hAg hO k_X2 ⟨co_X2_init, ini_X2, ⟨by decide, by decide, by decide +kernel⟩, by decide, by decide, rfl, im_X2_init⟩ mk_X5_31 rfl (Nat.le_of_ble_eq_true rfl) (by decide) (by decide) dX5_init_76 rfl rfl ⟨_, rfl, rfl, fun a37 => ?_⟩
  refine c_aast C (t := 3) (ci := 2) 35 1 (sheetW g o36 a37 ++ (sheetW g o34 a35 ++ (sheetW g o32 a33 ++ (textW g (5) o28 a29 a30 a31 ++ (textW g (4) o24 a25 a26 a27 ++ (textW g (3) o20 a21 a22 a23 ++ (textW g (2) o16 a17 a18 a19 ++ (textW g (1) o12 a13 a14 a15 ++ (textW g (0) o8 a9 a10 a11 ++ (tapeW g o3 a4 a5 a6 a7 ++ ([(a2, .inl (gC g 3, 4, .inr (.inr (.inr (.inr (va_up (va_up (va_up (fun _ => none) 0 (some o32)) 1 (some o34)) 2 (some o36))))))), (a1, .inl (gC g 4, 6, .inr (.inr (.inr (.inr (va_up (va_up (va_up (va_up (va_up (va_up (fun _ => none) 0 (some o8)) 1 (some o12)) 2 (some o16)) 3 (some o20)) 4 (some o24)) 5 (some o28))))))), (h, .inr (5, [.ref a1, .ref a2, .ref o3, .null, .null, .null, .int 0, .int 0]))]))))))))))) rfl rfl rfl rfl (by unfold vp_in; decide) rfl dX5_init_79 ?_
  refine c_iinc C (v := 3) 1 [(0, .ref h), (1, .int 3)] dX5_init_80 rfl (by decide) (by decide) rfl ?_
  refine c_goto C dX5_init_83 (tgt := 62) (by decide) ?_
  refine c_iload C 1 dX5_init_62 rfl rfl ?_
  refine c_iconst C 4 dX5_init_63 (by decide) ?_
  refine c_icmp_ge C dX5_init_64 (tgt := 86) (by decide) (fun q => absurd q (by decide)) (fun _ => ?_)
  refine c_aload C 0 dX5_init_67 rfl rfl ?_
  refine c_get C (.ref a2) 37 1 rfl inX5 rfl (by decide) fk_X5_17 rfl rfl dX5_init_68 ?_
  refine c_iload C 1 dX5_init_71 rfl rfl ?_
  refine c_new C hA (ci := 2) (N := 3) [.null, .int 0, .int 0] rfl inX2 tyX2 tyX2_ok cl_X5_15 ins_X2 ini_X2 (by decide) dX5_init_72 (by decide) (by decide) (fun o38 => ?_)
  refine c_dup C dX5_init_75 ?_
  refine c_mkN (n := 0) [(o38, .inr (2, [.null, .int 0, .int 0]))] (sheetW g o36 a37 ++ (sheetW g o34 a35 ++ (sheetW g o32 a33 ++ (textW g (5) o28 a29 a30 a31 ++ (textW g (4) o24 a25 a26 a27 ++ (textW g (3) o20 a21 a22 a23 ++ (textW g (2) o16 a17 a18 a19 ++ (textW g (1) o12 a13 a14 a15 ++ (textW g (0) o8 a9 a10 a11 ++ (tapeW g o3 a4 a5 a6 a7 ++ ([(a2, .inl (gC g 3, 4, .inr (.inr (.inr (.inr (va_up (va_up (va_up (fun _ => none) 0 (some o32)) 1 (some o34)) 2 (some o36))))))), (a1, .inl (gC g 4, 6, .inr (.inr (.inr (.inr (va_up (va_up (va_up (va_up (va_up (va_up (fun _ => none) 0 (some o8)) 1 (some o12)) 2 (some o16)) 3 (some o20)) 4 (some o24)) 5 (some o28))))))), (h, .inr (5, [.ref a1, .ref a2, .ref o3, .null, .null, .null, .int 0, .int 0]))]))))))))))) o38 [.ref o38, .int 3, .ref a2] [] C hA hAg hO k_X2 ⟨co_X2_init, ini_X2, ⟨by decide, by decide, by decide +kernel⟩, by decide, by decide, rfl, im_X2_init⟩ mk_X5_31 rfl (Nat.le_of_ble_eq_true rfl) (by decide) (by decide) dX5_init_76 rfl rfl ⟨_, rfl, rfl, fun a39 => ?_⟩
  refine c_aast C (t := 3) (ci := 2) 37 1 (sheetW g o38 a39 ++ (sheetW g o36 a37 ++ (sheetW g o34 a35 ++ (sheetW g o32 a33 ++ (textW g (5) o28 a29 a30 a31 ++ (textW g (4) o24 a25 a26 a27 ++ (textW g (3) o20 a21 a22 a23 ++ (textW g (2) o16 a17 a18 a19 ++ (textW g (1) o12 a13 a14 a15 ++ (textW g (0) o8 a9 a10 a11 ++ (tapeW g o3 a4 a5 a6 a7 ++ ([(a2, .inl (gC g 3, 4, .inr (.inr (.inr (.inr (va_up (va_up (va_up (va_up (fun _ => none) 0 (some o32)) 1 (some o34)) 2 (some o36)) 3 (some o38))))))), (a1, .inl (gC g 4, 6, .inr (.inr (.inr (.inr (va_up (va_up (va_up (va_up (va_up (va_up (fun _ => none) 0 (some o8)) 1 (some o12)) 2 (some o16)) 3 (some o20)) 4 (some o24)) 5 (some o28))))))), (h, .inr (5, [.ref a1, .ref a2, .ref o3, .null, .null, .null, .int 0, .int 0]))])))))))))))) rfl rfl rfl rfl (by unfold vp_in; decide) rfl dX5_init_79 ?_
  refine c_iinc C (v := 4) 1 [(0, .ref h), (1, .int 4)] dX5_init_80 rfl (by decide) (by decide) rfl ?_
  refine c_goto C dX5_init_83 (tgt := 62) (by decide) ?_
  refine c_iload C 1 dX5_init_62 rfl rfl ?_
  refine c_iconst C 4 dX5_init_63 (by decide) ?_
  refine c_icmp_ge C dX5_init_64 (tgt := 86) (by decide) (fun _ => ?_) (fun q => absurd (by decide) q)
  refine c_perm (([(a2, .inl (gC g 3, 4, .inr (.inr (.inr (.inr (va_up (va_up (va_up (va_up (fun _ => none) 0 (some o32)) 1 (some o34)) 2 (some o36)) 3 (some o38))))))), (a1, .inl (gC g 4, 6, .inr (.inr (.inr (.inr (va_up (va_up (va_up (va_up (va_up (va_up (fun _ => none) 0 (some o8)) 1 (some o12)) 2 (some o16)) 3 (some o20)) 4 (some o24)) 5 (some o28))))))), (h, .inr (5, [.ref a1, .ref a2, .ref o3, .null, .null, .null, .int 0, .int 0]))]) ++ wsM (mkg g (fun q => [h, a1, a2, o3, a4, a5, a6, a7, o8, a9, a10, a11, o12, a13, a14, a15, o16, a17, a18, a19, o20, a21, a22, a23, o24, a25, a26, a27, o28, a29, a30, a31, o32, a33, o34, a35, o36, a37, o38, a39].getD q 0) idsA) M0) (List.Perm.trans (List.Perm.of_eq (ws_A g (fun q => [h, a1, a2, o3, a4, a5, a6, a7, o8, a9, a10, a11, o12, a13, a14, a15, o16, a17, a18, a19, o20, a21, a22, a23, o24, a25, a26, a27, o28, a29, a30, a31, o32, a33, o34, a35, o36, a37, o38, a39].getD q 0) ([(a2, .inl (gC g 3, 4, .inr (.inr (.inr (.inr (va_up (va_up (va_up (va_up (fun _ => none) 0 (some o32)) 1 (some o34)) 2 (some o36)) 3 (some o38))))))), (a1, .inl (gC g 4, 6, .inr (.inr (.inr (.inr (va_up (va_up (va_up (va_up (va_up (va_up (fun _ => none) 0 (some o8)) 1 (some o12)) 2 (some o16)) 3 (some o20)) 4 (some o24)) 5 (some o28))))))), (h, .inr (5, [.ref a1, .ref a2, .ref o3, .null, .null, .null, .int 0, .int 0]))])).symm) List.perm_append_comm) ?_
  refine c_ws _ (fun D H hP => ?_) ?_ (kk (fun q => [h, a1, a2, o3, a4, a5, a6, a7, o8, a9, a10, a11, o12, a13, a14, a15, o16, a17, a18, a19, o20, a21, a22, a23, o24, a25, a26, a27, o28, a29, a30, a31, o32, a33, o34, a35, o36, a37, o38, a39].getD q 0) rfl)
  · exact vP_cons.mpr ⟨at_row (fun i hi => by match i, hi with | 0, _ => rfl | 1, _ => rfl | 2, _ => rfl | 3, _ => rfl) (vP_cons.mp hP).1, vP_cons.mpr ⟨at_row (fun i hi => by match i, hi with | 0, _ => rfl | 1, _ => rfl | 2, _ => rfl | 3, _ => rfl | 4, _ => rfl | 5, _ => rfl) (vP_cons.mp (vP_cons.mp hP).2).1, (vP_cons.mp (vP_cons.mp hP).2).2⟩⟩
  · rfl
