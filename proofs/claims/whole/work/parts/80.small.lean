/-! ===== the makers of the small classes ===== -/
def textW (g : WG) (i : Int32) (h a b c : Nat) : va_W := [(c, .inl (gC g 0, 160, .inl fun _ => 0)), (b, .inl (gC g 0, 3, .inl fun _ => 0)), (a, .inl (gC g 0, 160, .inl fun _ => 0)), (h, .inr (4, [.int i, .ref a, .ref b, .ref c, .int 0]))]
def sheetW (g : WG) (h a : Nat) : va_W := [(a, .inl (gC g 0, 40, .inl fun _ => 0)), (h, .inr (2, [.ref a, .int (-1), .int 0]))]
def tapeW (g : WG) (h a b c d : Nat) : va_W := [(d, .inl (gC g 0, 161, .inl fun _ => 0)), (c, .inl (gC g 0, 161, .inl fun _ => 0)), (b, .inl (gC g 0, 161, .inl fun _ => 0)), (a, .inl (gC g 0, 160, .inl fun _ => 0)), (h, .inr (3, [.ref a, .ref b, .ref c, .ref d, .int 0, .int 0, .int 0, .int 0]))]
def seamW (h : Nat) : va_W := [(h, .inr (1, [.int 0, .int 0, .int 0, .int 0, .int 0, .int 0]))]
def dayW (g : WG) (t h a b c d s0 s1 s2 s3 s4 s5 s6 : Nat) : va_W := [(s6, .inr (1, [.int 0, .int 0, .int 0, .int 0, .int 0, .int 0])), (s5, .inr (1, [.int 0, .int 0, .int 0, .int 0, .int 0, .int 0])), (s4, .inr (1, [.int 0, .int 0, .int 0, .int 0, .int 0, .int 0])), (s3, .inr (1, [.int 0, .int 0, .int 0, .int 0, .int 0, .int 0])), (s2, .inr (1, [.int 0, .int 0, .int 0, .int 0, .int 0, .int 0])), (s1, .inr (1, [.int 0, .int 0, .int 0, .int 0, .int 0, .int 0])), (s0, .inr (1, [.int 0, .int 0, .int 0, .int 0, .int 0, .int 0])), (d, .inl (gC g 0, 6, .inl fun _ => 0)), (c, .inl (gC g 0, 16, .inl fun _ => 0)), (b, .inl (gC g 2, 7, .inr (.inr (.inr (.inr (va_up (va_up (va_up (va_up (va_up (va_up (va_up (fun _ => none) 0 (some s0)) 1 (some s1)) 2 (some s2)) 3 (some s3)) 4 (some s4)) 5 (some s5)) 6 (some s6))))))), (a, .inl (gC g 0, 16, .inl fun _ => 0)), (h, .inr (0, [.ref a, .ref b, .ref c, .ref d, .ref t, .int 0, .int 0, .int 0, .int 0]))]
def K_X1 (_ : WG) : KT := fun as ws Q => ∃ h, as = [.ref h] ∧ ws = seamW h ∧ Q (seamW h)
def K_X4 (g : WG) : KT := fun as ws Q => ∃ h i, as = [.ref h, .int i] ∧ ws = [(h, .inr (4, [.int 0, .null, .null, .null, .int 0]))] ∧ ∀ a b c, Q (textW g i h a b c)
def K_X2 (g : WG) : KT := fun as ws Q => ∃ h, as = [.ref h] ∧ ws = [(h, .inr (2, [.null, .int 0, .int 0]))] ∧ ∀ a, Q (sheetW g h a)
def K_X3 (g : WG) : KT := fun as ws Q => ∃ h, as = [.ref h] ∧ ws = [(h, .inr (3, [.null, .null, .null, .null, .int 0, .int 0, .int 0, .int 0]))] ∧ ∀ a b c d, Q (tapeW g h a b c d)
def K_X0 (g : WG) : KT := fun as ws Q => ∃ h t, as = [.ref h, .ref t] ∧ ws = [(h, .inr (0, [.null, .null, .null, .null, .null, .int 0, .int 0, .int 0, .int 0]))] ∧ ∀ a b c d s0 s1 s2 s3 s4 s5 s6, Q (dayW g t h a b c d s0 s1 s2 s3 s4 s5 s6)
set_option maxRecDepth 100000 in
set_option maxHeartbeats 4000000 in
theorem k_X1 {l : Launch} {g : WG} : Ki l g yX1_init cX1_init 1 1 0 0 (K_X1 g) := by
  refine Ki.of (by decide) rfl (fun as ws Q h => ?_) (fun p e s m args below meth c as ws Q A hX C hI hO hA hAg hAe => ?_)
  · obtain ⟨h, rfl, rfl, -⟩ := h; exact ⟨by simp, by simp [Value.category]⟩
  · obtain ⟨h, rfl, rfl, HQ⟩ := hX
    refine c_aload C 0 dX1_init_0 rfl rfl ?_
    refine c_obj C mk_X1_3 (by decide) (by decide) (Nat.le_of_ble_eq_true rfl) dX1_init_1 ?_
    exact c_end C hAe dX1_init_4 HQ
set_option maxRecDepth 100000 in
set_option maxHeartbeats 4000000 in
theorem k_X4 {l : Launch} {g : WG} : Ki l g yX4_init cX4_init 2 1 3 323 (K_X4 g) := by
  refine Ki.of (by decide) rfl (fun as ws Q h => ?_) (fun p e s m args below meth c as ws Q A hX C hI hO hA hAg hAe => ?_)
  · obtain ⟨h, i, rfl, rfl, -⟩ := h; exact ⟨by simp, by simp [Value.category]⟩
  · obtain ⟨h, i, rfl, rfl, HQ⟩ := hX
    refine c_aload C 0 dX4_init_0 rfl rfl ?_
    refine c_obj C mk_X4_3 (by decide) (by decide) (Nat.le_of_ble_eq_true rfl) dX4_init_1 ?_
    refine c_aload C 0 dX4_init_4 rfl rfl ?_
    refine c_sipush C 160 dX4_init_5 (by decide) ?_
    refine c_newi C hA 160 dX4_init_8 (by decide) (by decide) (by decide) (by decide) (by decide) (fun a1 => ?_)
    refine c_putF C hI 1 1 ([(a1, .inl (gC g 0, 160, .inl fun _ => 0)), (h, .inr (4, [.int 0, .ref a1, .null, .null, .int 0]))]) rfl inX4 tyX4 tyX4_ok nmX4 rfl (by decide) fk_X4_9 rfl rfl rfl (tyX4_ok 1 (by decide)) rfl rfl (Nat.le_of_ble_eq_true rfl) rfl dX4_init_10 ?_
    refine c_aload C 0 dX4_init_13 rfl rfl ?_
    refine c_iconst C 3 dX4_init_14 (by decide) ?_
    refine c_newi C hA 3 dX4_init_15 (by decide) (by decide) (by decide) (by decide) (by decide) (fun a2 => ?_)
    refine c_putF C hI 2 2 ([(a2, .inl (gC g 0, 3, .inl fun _ => 0)), (a1, .inl (gC g 0, 160, .inl fun _ => 0)), (h, .inr (4, [.int 0, .ref a1, .ref a2, .null, .int 0]))]) rfl inX4 tyX4 tyX4_ok nmX4 rfl (by decide) fk_X4_15 rfl rfl rfl (tyX4_ok 2 (by decide)) rfl rfl (Nat.le_of_ble_eq_true rfl) rfl dX4_init_17 ?_
    refine c_aload C 0 dX4_init_20 rfl rfl ?_
    refine c_sipush C 160 dX4_init_21 (by decide) ?_
    refine c_newi C hA 160 dX4_init_24 (by decide) (by decide) (by decide) (by decide) (by decide) (fun a3 => ?_)
    refine c_putF C hI 3 3 ([(a3, .inl (gC g 0, 160, .inl fun _ => 0)), (a2, .inl (gC g 0, 3, .inl fun _ => 0)), (a1, .inl (gC g 0, 160, .inl fun _ => 0)), (h, .inr (4, [.int 0, .ref a1, .ref a2, .ref a3, .int 0]))]) rfl inX4 tyX4 tyX4_ok nmX4 rfl (by decide) fk_X4_18 rfl rfl rfl (tyX4_ok 3 (by decide)) rfl rfl (Nat.le_of_ble_eq_true rfl) rfl dX4_init_26 ?_
    refine c_aload C 0 dX4_init_29 rfl rfl ?_
    refine c_iload C 1 dX4_init_30 rfl rfl ?_
    refine c_putF C hI 3 0 ([(a3, .inl (gC g 0, 160, .inl fun _ => 0)), (a2, .inl (gC g 0, 3, .inl fun _ => 0)), (a1, .inl (gC g 0, 160, .inl fun _ => 0)), (h, .inr (4, [.int i, .ref a1, .ref a2, .ref a3, .int 0]))]) rfl inX4 tyX4 tyX4_ok nmX4 rfl (by decide) fk_X4_21 rfl rfl rfl (tyX4_ok 0 (by decide)) rfl rfl (Nat.le_of_ble_eq_true rfl) rfl dX4_init_31 ?_
    exact c_end C hAe dX4_init_34 (HQ a1 a2 a3)
set_option maxRecDepth 100000 in
set_option maxHeartbeats 4000000 in
theorem k_X2 {l : Launch} {g : WG} : Ki l g yX2_init cX2_init 1 1 1 40 (K_X2 g) := by
  refine Ki.of (by decide) rfl (fun as ws Q h => ?_) (fun p e s m args below meth c as ws Q A hX C hI hO hA hAg hAe => ?_)
  · obtain ⟨h, rfl, rfl, -⟩ := h; exact ⟨by simp, by simp [Value.category]⟩
  · obtain ⟨h, rfl, rfl, HQ⟩ := hX
    refine c_aload C 0 dX2_init_0 rfl rfl ?_
    refine c_obj C mk_X2_3 (by decide) (by decide) (Nat.le_of_ble_eq_true rfl) dX2_init_1 ?_
    refine c_aload C 0 dX2_init_4 rfl rfl ?_
    refine c_bipush C 40 dX2_init_5 (by decide) ?_
    refine c_newi C hA 40 dX2_init_7 (by decide) (by decide) (by decide) (by decide) (by decide) (fun a1 => ?_)
    refine c_putF C hI 1 0 ([(a1, .inl (gC g 0, 40, .inl fun _ => 0)), (h, .inr (2, [.ref a1, .int 0, .int 0]))]) rfl inX2 tyX2 tyX2_ok nmX2 rfl (by decide) fk_X2_9 rfl rfl rfl (tyX2_ok 0 (by decide)) rfl rfl (Nat.le_of_ble_eq_true rfl) rfl dX2_init_9 ?_
    refine c_aload C 0 dX2_init_12 rfl rfl ?_
    refine c_iconst C (-1) dX2_init_13 (by decide) ?_
    refine c_put C 1 1 ([(a1, .inl (gC g 0, 40, .inl fun _ => 0)), (h, .inr (2, [.ref a1, .int (-1), .int 0]))]) rfl inX2 tyX2 tyX2_ok nmX2 rfl (by decide) fk_X2_15 rfl rfl (tyX2_ok 1 (by decide)) rfl rfl (Nat.le_of_ble_eq_true rfl) rfl dX2_init_14 ?_
    exact c_end C hAe dX2_init_17 (HQ a1)
set_option maxRecDepth 100000 in
set_option maxHeartbeats 4000000 in
theorem k_X3 {l : Launch} {g : WG} : Ki l g yX3_init cX3_init 1 1 4 643 (K_X3 g) := by
  refine Ki.of (by decide) rfl (fun as ws Q h => ?_) (fun p e s m args below meth c as ws Q A hX C hI hO hA hAg hAe => ?_)
  · obtain ⟨h, rfl, rfl, -⟩ := h; exact ⟨by simp, by simp [Value.category]⟩
  · obtain ⟨h, rfl, rfl, HQ⟩ := hX
    refine c_aload C 0 dX3_init_0 rfl rfl ?_
    refine c_obj C mk_X3_3 (by decide) (by decide) (Nat.le_of_ble_eq_true rfl) dX3_init_1 ?_
    refine c_aload C 0 dX3_init_4 rfl rfl ?_
    refine c_sipush C 160 dX3_init_5 (by decide) ?_
    refine c_newi C hA 160 dX3_init_8 (by decide) (by decide) (by decide) (by decide) (by decide) (fun a1 => ?_)
    refine c_putF C hI 1 0 ([(a1, .inl (gC g 0, 160, .inl fun _ => 0)), (h, .inr (3, [.ref a1, .null, .null, .null, .int 0, .int 0, .int 0, .int 0]))]) rfl inX3 tyX3 tyX3_ok nmX3 rfl (by decide) fk_X3_9 rfl rfl rfl (tyX3_ok 0 (by decide)) rfl rfl (Nat.le_of_ble_eq_true rfl) rfl dX3_init_10 ?_
    refine c_aload C 0 dX3_init_13 rfl rfl ?_
    refine c_sipush C 161 dX3_init_14 (by decide) ?_
    refine c_newi C hA 161 dX3_init_17 (by decide) (by decide) (by decide) (by decide) (by decide) (fun a2 => ?_)
    refine c_putF C hI 2 1 ([(a2, .inl (gC g 0, 161, .inl fun _ => 0)), (a1, .inl (gC g 0, 160, .inl fun _ => 0)), (h, .inr (3, [.ref a1, .ref a2, .null, .null, .int 0, .int 0, .int 0, .int 0]))]) rfl inX3 tyX3 tyX3_ok nmX3 rfl (by decide) fk_X3_15 rfl rfl rfl (tyX3_ok 1 (by decide)) rfl rfl (Nat.le_of_ble_eq_true rfl) rfl dX3_init_19 ?_
    refine c_aload C 0 dX3_init_22 rfl rfl ?_
    refine c_sipush C 161 dX3_init_23 (by decide) ?_
    refine c_newi C hA 161 dX3_init_26 (by decide) (by decide) (by decide) (by decide) (by decide) (fun a3 => ?_)
    refine c_putF C hI 3 2 ([(a3, .inl (gC g 0, 161, .inl fun _ => 0)), (a2, .inl (gC g 0, 161, .inl fun _ => 0)), (a1, .inl (gC g 0, 160, .inl fun _ => 0)), (h, .inr (3, [.ref a1, .ref a2, .ref a3, .null, .int 0, .int 0, .int 0, .int 0]))]) rfl inX3 tyX3 tyX3_ok nmX3 rfl (by decide) fk_X3_18 rfl rfl rfl (tyX3_ok 2 (by decide)) rfl rfl (Nat.le_of_ble_eq_true rfl) rfl dX3_init_28 ?_
    refine c_aload C 0 dX3_init_31 rfl rfl ?_
    refine c_sipush C 161 dX3_init_32 (by decide) ?_
    refine c_newi C hA 161 dX3_init_35 (by decide) (by decide) (by decide) (by decide) (by decide) (fun a4 => ?_)
    refine c_putF C hI 4 3 ([(a4, .inl (gC g 0, 161, .inl fun _ => 0)), (a3, .inl (gC g 0, 161, .inl fun _ => 0)), (a2, .inl (gC g 0, 161, .inl fun _ => 0)), (a1, .inl (gC g 0, 160, .inl fun _ => 0)), (h, .inr (3, [.ref a1, .ref a2, .ref a3, .ref a4, .int 0, .int 0, .int 0, .int 0]))]) rfl inX3 tyX3 tyX3_ok nmX3 rfl (by decide) fk_X3_21 rfl rfl rfl (tyX3_ok 3 (by decide)) rfl rfl (Nat.le_of_ble_eq_true rfl) rfl dX3_init_37 ?_
    exact c_end C hAe dX3_init_40 (HQ a1 a2 a3 a4)
set_option maxRecDepth 100000 in
set_option maxHeartbeats 4000000 in
theorem k_X0 {l : Launch} {g : WG} : Ki l g yX0_init cX0_init 3 2 11 87 (K_X0 g) := by
  refine Ki.of (by decide) rfl (fun as ws Q h => ?_) (fun p e s m args below meth c as ws Q A hX C hI hO hA hAg hAe => ?_)
  · obtain ⟨h, t, rfl, rfl, -⟩ := h; exact ⟨by simp, by simp [Value.category]⟩
  · obtain ⟨h, t, rfl, rfl, HQ⟩ := hX
    refine c_aload C 0 dX0_init_0 rfl rfl ?_
    refine c_obj C mk_X0_3 (by decide) (by decide) (Nat.le_of_ble_eq_true rfl) dX0_init_1 ?_
    refine c_aload C 0 dX0_init_4 rfl rfl ?_
    refine c_bipush C 16 dX0_init_5 (by decide) ?_
    refine c_newi C hA 16 dX0_init_7 (by decide) (by decide) (by decide) (by decide) (by decide) (fun a1 => ?_)
    refine c_putF C hI 1 0 ([(a1, .inl (gC g 0, 16, .inl fun _ => 0)), (h, .inr (0, [.ref a1, .null, .null, .null, .null, .int 0, .int 0, .int 0, .int 0]))]) rfl inX0 tyX0 tyX0_ok nmX0 rfl (by decide) fk_X0_9 rfl rfl rfl (tyX0_ok 0 (by decide)) rfl rfl (Nat.le_of_ble_eq_true rfl) rfl dX0_init_9 ?_
    refine c_aload C 0 dX0_init_12 rfl rfl ?_
    refine c_bipush C 7 dX0_init_13 (by decide) ?_
    refine c_newq C hA 2 7 rfl cl_X0_15 hO.1 dX0_init_15 (by decide) (by decide) (by decide) (by decide) (by decide) (fun a2 => ?_)
    refine c_putF C hI 2 1 ([(a2, .inl (gC g 2, 7, .inr (.inr (.inr (.inr (fun _ => none)))))), (a1, .inl (gC g 0, 16, .inl fun _ => 0)), (h, .inr (0, [.ref a1, .ref a2, .null, .null, .null, .int 0, .int 0, .int 0, .int 0]))]) rfl inX0 tyX0 tyX0_ok nmX0 rfl (by decide) fk_X0_17 rfl rfl rfl (tyX0_ok 1 (by decide)) rfl rfl (Nat.le_of_ble_eq_true rfl) rfl dX0_init_18 ?_
    refine c_aload C 0 dX0_init_21 rfl rfl ?_
    refine c_bipush C 16 dX0_init_22 (by decide) ?_
    refine c_newi C hA 16 dX0_init_24 (by decide) (by decide) (by decide) (by decide) (by decide) (fun a3 => ?_)
    refine c_putF C hI 3 2 ([(a3, .inl (gC g 0, 16, .inl fun _ => 0)), (a2, .inl (gC g 2, 7, .inr (.inr (.inr (.inr (fun _ => none)))))), (a1, .inl (gC g 0, 16, .inl fun _ => 0)), (h, .inr (0, [.ref a1, .ref a2, .ref a3, .null, .null, .int 0, .int 0, .int 0, .int 0]))]) rfl inX0 tyX0 tyX0_ok nmX0 rfl (by decide) fk_X0_21 rfl rfl rfl (tyX0_ok 2 (by decide)) rfl rfl (Nat.le_of_ble_eq_true rfl) rfl dX0_init_26 ?_
    refine c_aload C 0 dX0_init_29 rfl rfl ?_
    refine c_bipush C 6 dX0_init_30 (by decide) ?_
    refine c_newi C hA 6 dX0_init_32 (by decide) (by decide) (by decide) (by decide) (by decide) (fun a4 => ?_)
    refine c_putF C hI 4 3 ([(a4, .inl (gC g 0, 6, .inl fun _ => 0)), (a3, .inl (gC g 0, 16, .inl fun _ => 0)), (a2, .inl (gC g 2, 7, .inr (.inr (.inr (.inr (fun _ => none)))))), (a1, .inl (gC g 0, 16, .inl fun _ => 0)), (h, .inr (0, [.ref a1, .ref a2, .ref a3, .ref a4, .null, .int 0, .int 0, .int 0, .int 0]))]) rfl inX0 tyX0 tyX0_ok nmX0 rfl (by decide) fk_X0_26 rfl rfl rfl (tyX0_ok 3 (by decide)) rfl rfl (Nat.le_of_ble_eq_true rfl) rfl dX0_init_34 ?_
    refine c_aload C 0 dX0_init_37 rfl rfl ?_
    refine c_aload C 1 dX0_init_38 rfl rfl ?_
    refine c_put C 4 4 ([(a4, .inl (gC g 0, 6, .inl fun _ => 0)), (a3, .inl (gC g 0, 16, .inl fun _ => 0)), (a2, .inl (gC g 2, 7, .inr (.inr (.inr (.inr (fun _ => none)))))), (a1, .inl (gC g 0, 16, .inl fun _ => 0)), (h, .inr (0, [.ref a1, .ref a2, .ref a3, .ref a4, .ref t, .int 0, .int 0, .int 0, .int 0]))]) rfl inX0 tyX0 tyX0_ok nmX0 rfl (by decide) fk_X0_29 rfl rfl (tyX0_ok 4 (by decide)) rfl rfl (Nat.le_of_ble_eq_true rfl) rfl dX0_init_39 ?_
    refine c_iconst C 0 dX0_init_42 (by decide) ?_
    refine c_istore C 2 [(0, .ref h), (1, .ref t), (2, .int 0)] dX0_init_43 rfl (by decide) rfl ?_
    refine c_iload C 2 dX0_init_44 rfl rfl ?_
    refine c_aload C 0 dX0_init_45 rfl rfl ?_
    refine c_get C (.ref a2) 4 1 rfl inX0 rfl (by decide) fk_X0_17 rfl rfl dX0_init_46 ?_
    refine c_alen C (t := 2) (v := 7) 2 rfl rfl rfl dX0_init_49 ?_
    refine c_icmp_ge C dX0_init_50 (tgt := 72) (by decide) (fun q => absurd q (by decide)) (fun _ => ?_)
    refine c_aload C 0 dX0_init_53 rfl rfl ?_
    refine c_get C (.ref a2) 4 1 rfl inX0 rfl (by decide) fk_X0_17 rfl rfl dX0_init_54 ?_
    refine c_iload C 2 dX0_init_57 rfl rfl ?_
    refine c_new C hA (ci := 1) (N := 6) [.int 0, .int 0, .int 0, .int 0, .int 0, .int 0] rfl inX1 tyX1 tyX1_ok cl_X0_15 ins_X1 ini_X1 (by decide) dX0_init_58 (by decide) (by decide) (fun o5 => ?_)
    refine c_dup C dX0_init_61 ?_
    refine c_mkN (n := 0) [(o5, .inr (1, [.int 0, .int 0, .int 0, .int 0, .int 0, .int 0]))] ([(a4, .inl (gC g 0, 6, .inl fun _ => 0)), (a3, .inl (gC g 0, 16, .inl fun _ => 0)), (a2, .inl (gC g 2, 7, .inr (.inr (.inr (.inr (fun _ => none)))))), (a1, .inl (gC g 0, 16, .inl fun _ => 0)), (h, .inr (0, [.ref a1, .ref a2, .ref a3, .ref a4, .ref t, .int 0, .int 0, .int 0, .int 0]))]) o5 [.ref o5, .int 0, .ref a2] [] C hA hAg hO k_X1 ⟨co_X1_init, ini_X1, ⟨by decide, by decide, by decide +kernel⟩, by decide, by decide, rfl, im_X1_init⟩ mk_X0_33 rfl (Nat.le_of_ble_eq_true rfl) (by decide) (by decide) dX0_init_62 rfl rfl ⟨_, rfl, rfl, ?_⟩
    refine c_aast C (t := 2) (ci := 1) 3 0 ([(o5, .inr (1, [.int 0, .int 0, .int 0, .int 0, .int 0, .int 0])), (a4, .inl (gC g 0, 6, .inl fun _ => 0)), (a3, .inl (gC g 0, 16, .inl fun _ => 0)), (a2, .inl (gC g 2, 7, .inr (.inr (.inr (.inr (va_up (fun _ => none) 0 (some o5))))))), (a1, .inl (gC g 0, 16, .inl fun _ => 0)), (h, .inr (0, [.ref a1, .ref a2, .ref a3, .ref a4, .ref t, .int 0, .int 0, .int 0, .int 0]))]) rfl rfl rfl rfl (by unfold vp_in; decide) rfl dX0_init_65 ?_
    refine c_iinc C (v := 1) 2 [(0, .ref h), (1, .ref t), (2, .int 1)] dX0_init_66 rfl (by decide) (by decide) rfl ?_
    refine c_goto C dX0_init_69 (tgt := 44) (by decide) ?_
    refine c_iload C 2 dX0_init_44 rfl rfl ?_
    refine c_aload C 0 dX0_init_45 rfl rfl ?_
    refine c_get C (.ref a2) 5 1 rfl inX0 rfl (by decide) fk_X0_17 rfl rfl dX0_init_46 ?_
    refine c_alen C (t := 2) (v := 7) 3 rfl rfl rfl dX0_init_49 ?_
    refine c_icmp_ge C dX0_init_50 (tgt := 72) (by decide) (fun q => absurd q (by decide)) (fun _ => ?_)
    refine c_aload C 0 dX0_init_53 rfl rfl ?_
    refine c_get C (.ref a2) 5 1 rfl inX0 rfl (by decide) fk_X0_17 rfl rfl dX0_init_54 ?_
    refine c_iload C 2 dX0_init_57 rfl rfl ?_
    refine c_new C hA (ci := 1) (N := 6) [.int 0, .int 0, .int 0, .int 0, .int 0, .int 0] rfl inX1 tyX1 tyX1_ok cl_X0_15 ins_X1 ini_X1 (by decide) dX0_init_58 (by decide) (by decide) (fun o6 => ?_)
    refine c_dup C dX0_init_61 ?_
    refine c_mkN (n := 0) [(o6, .inr (1, [.int 0, .int 0, .int 0, .int 0, .int 0, .int 0]))] ([(o5, .inr (1, [.int 0, .int 0, .int 0, .int 0, .int 0, .int 0])), (a4, .inl (gC g 0, 6, .inl fun _ => 0)), (a3, .inl (gC g 0, 16, .inl fun _ => 0)), (a2, .inl (gC g 2, 7, .inr (.inr (.inr (.inr (va_up (fun _ => none) 0 (some o5))))))), (a1, .inl (gC g 0, 16, .inl fun _ => 0)), (h, .inr (0, [.ref a1, .ref a2, .ref a3, .ref a4, .ref t, .int 0, .int 0, .int 0, .int 0]))]) o6 [.ref o6, .int 1, .ref a2] [] C hA hAg hO k_X1 ⟨co_X1_init, ini_X1, ⟨by decide, by decide, by decide +kernel⟩, by decide, by decide, rfl, im_X1_init⟩ mk_X0_33 rfl (Nat.le_of_ble_eq_true rfl) (by decide) (by decide) dX0_init_62 rfl rfl ⟨_, rfl, rfl, ?_⟩
    refine c_aast C (t := 2) (ci := 1) 4 0 ([(o6, .inr (1, [.int 0, .int 0, .int 0, .int 0, .int 0, .int 0])), (o5, .inr (1, [.int 0, .int 0, .int 0, .int 0, .int 0, .int 0])), (a4, .inl (gC g 0, 6, .inl fun _ => 0)), (a3, .inl (gC g 0, 16, .inl fun _ => 0)), (a2, .inl (gC g 2, 7, .inr (.inr (.inr (.inr (va_up (va_up (fun _ => none) 0 (some o5)) 1 (some o6))))))), (a1, .inl (gC g 0, 16, .inl fun _ => 0)), (h, .inr (0, [.ref a1, .ref a2, .ref a3, .ref a4, .ref t, .int 0, .int 0, .int 0, .int 0]))]) rfl rfl rfl rfl (by unfold vp_in; decide) rfl dX0_init_65 ?_
    refine c_iinc C (v := 2) 2 [(0, .ref h), (1, .ref t), (2, .int 2)] dX0_init_66 rfl (by decide) (by decide) rfl ?_
    refine c_goto C dX0_init_69 (tgt := 44) (by decide) ?_
    refine c_iload C 2 dX0_init_44 rfl rfl ?_
    refine c_aload C 0 dX0_init_45 rfl rfl ?_
    refine c_get C (.ref a2) 6 1 rfl inX0 rfl (by decide) fk_X0_17 rfl rfl dX0_init_46 ?_
    refine c_alen C (t := 2) (v := 7) 4 rfl rfl rfl dX0_init_49 ?_
    refine c_icmp_ge C dX0_init_50 (tgt := 72) (by decide) (fun q => absurd q (by decide)) (fun _ => ?_)
    refine c_aload C 0 dX0_init_53 rfl rfl ?_
    refine c_get C (.ref a2) 6 1 rfl inX0 rfl (by decide) fk_X0_17 rfl rfl dX0_init_54 ?_
    refine c_iload C 2 dX0_init_57 rfl rfl ?_
    refine c_new C hA (ci := 1) (N := 6) [.int 0, .int 0, .int 0, .int 0, .int 0, .int 0] rfl inX1 tyX1 tyX1_ok cl_X0_15 ins_X1 ini_X1 (by decide) dX0_init_58 (by decide) (by decide) (fun o7 => ?_)
    refine c_dup C dX0_init_61 ?_
    refine c_mkN (n := 0) [(o7, .inr (1, [.int 0, .int 0, .int 0, .int 0, .int 0, .int 0]))] ([(o6, .inr (1, [.int 0, .int 0, .int 0, .int 0, .int 0, .int 0])), (o5, .inr (1, [.int 0, .int 0, .int 0, .int 0, .int 0, .int 0])), (a4, .inl (gC g 0, 6, .inl fun _ => 0)), (a3, .inl (gC g 0, 16, .inl fun _ => 0)), (a2, .inl (gC g 2, 7, .inr (.inr (.inr (.inr (va_up (va_up (fun _ => none) 0 (some o5)) 1 (some o6))))))), (a1, .inl (gC g 0, 16, .inl fun _ => 0)), (h, .inr (0, [.ref a1, .ref a2, .ref a3, .ref a4, .ref t, .int 0, .int 0, .int 0, .int 0]))]) o7 [.ref o7, .int 2, .ref a2] [] C hA hAg hO k_X1 ⟨co_X1_init, ini_X1, ⟨by decide, by decide, by decide +kernel⟩, by decide, by decide, rfl, im_X1_init⟩ mk_X0_33 rfl (Nat.le_of_ble_eq_true rfl) (by decide) (by decide) dX0_init_62 rfl rfl ⟨_, rfl, rfl, ?_⟩
    refine c_aast C (t := 2) (ci := 1) 5 0 ([(o7, .inr (1, [.int 0, .int 0, .int 0, .int 0, .int 0, .int 0])), (o6, .inr (1, [.int 0, .int 0, .int 0, .int 0, .int 0, .int 0])), (o5, .inr (1, [.int 0, .int 0, .int 0, .int 0, .int 0, .int 0])), (a4, .inl (gC g 0, 6, .inl fun _ => 0)), (a3, .inl (gC g 0, 16, .inl fun _ => 0)), (a2, .inl (gC g 2, 7, .inr (.inr (.inr (.inr (va_up (va_up (va_up (fun _ => none) 0 (some o5)) 1 (some o6)) 2 (some o7))))))), (a1, .inl (gC g 0, 16, .inl fun _ => 0)), (h, .inr (0, [.ref a1, .ref a2, .ref a3, .ref a4, .ref t, .int 0, .int 0, .int 0, .int 0]))]) rfl rfl rfl rfl (by unfold vp_in; decide) rfl dX0_init_65 ?_
    refine c_iinc C (v := 3) 2 [(0, .ref h), (1, .ref t), (2, .int 3)] dX0_init_66 rfl (by decide) (by decide) rfl ?_
    refine c_goto C dX0_init_69 (tgt := 44) (by decide) ?_
    refine c_iload C 2 dX0_init_44 rfl rfl ?_
    refine c_aload C 0 dX0_init_45 rfl rfl ?_
    refine c_get C (.ref a2) 7 1 rfl inX0 rfl (by decide) fk_X0_17 rfl rfl dX0_init_46 ?_
    refine c_alen C (t := 2) (v := 7) 5 rfl rfl rfl dX0_init_49 ?_
    refine c_icmp_ge C dX0_init_50 (tgt := 72) (by decide) (fun q => absurd q (by decide)) (fun _ => ?_)
    refine c_aload C 0 dX0_init_53 rfl rfl ?_
    refine c_get C (.ref a2) 7 1 rfl inX0 rfl (by decide) fk_X0_17 rfl rfl dX0_init_54 ?_
    refine c_iload C 2 dX0_init_57 rfl rfl ?_
    refine c_new C hA (ci := 1) (N := 6) [.int 0, .int 0, .int 0, .int 0, .int 0, .int 0] rfl inX1 tyX1 tyX1_ok cl_X0_15 ins_X1 ini_X1 (by decide) dX0_init_58 (by decide) (by decide) (fun o8 => ?_)
    refine c_dup C dX0_init_61 ?_
    refine c_mkN (n := 0) [(o8, .inr (1, [.int 0, .int 0, .int 0, .int 0, .int 0, .int 0]))] ([(o7, .inr (1, [.int 0, .int 0, .int 0, .int 0, .int 0, .int 0])), (o6, .inr (1, [.int 0, .int 0, .int 0, .int 0, .int 0, .int 0])), (o5, .inr (1, [.int 0, .int 0, .int 0, .int 0, .int 0, .int 0])), (a4, .inl (gC g 0, 6, .inl fun _ => 0)), (a3, .inl (gC g 0, 16, .inl fun _ => 0)), (a2, .inl (gC g 2, 7, .inr (.inr (.inr (.inr (va_up (va_up (va_up (fun _ => none) 0 (some o5)) 1 (some o6)) 2 (some o7))))))), (a1, .inl (gC g 0, 16, .inl fun _ => 0)), (h, .inr (0, [.ref a1, .ref a2, .ref a3, .ref a4, .ref t, .int 0, .int 0, .int 0, .int 0]))]) o8 [.ref o8, .int 3, .ref a2] [] C hA hAg hO k_X1 ⟨co_X1_init, ini_X1, ⟨by decide, by decide, by decide +kernel⟩, by decide, by decide, rfl, im_X1_init⟩ mk_X0_33 rfl (Nat.le_of_ble_eq_true rfl) (by decide) (by decide) dX0_init_62 rfl rfl ⟨_, rfl, rfl, ?_⟩
    refine c_aast C (t := 2) (ci := 1) 6 0 ([(o8, .inr (1, [.int 0, .int 0, .int 0, .int 0, .int 0, .int 0])), (o7, .inr (1, [.int 0, .int 0, .int 0, .int 0, .int 0, .int 0])), (o6, .inr (1, [.int 0, .int 0, .int 0, .int 0, .int 0, .int 0])), (o5, .inr (1, [.int 0, .int 0, .int 0, .int 0, .int 0, .int 0])), (a4, .inl (gC g 0, 6, .inl fun _ => 0)), (a3, .inl (gC g 0, 16, .inl fun _ => 0)), (a2, .inl (gC g 2, 7, .inr (.inr (.inr (.inr (va_up (va_up (va_up (va_up (fun _ => none) 0 (some o5)) 1 (some o6)) 2 (some o7)) 3 (some o8))))))), (a1, .inl (gC g 0, 16, .inl fun _ => 0)), (h, .inr (0, [.ref a1, .ref a2, .ref a3, .ref a4, .ref t, .int 0, .int 0, .int 0, .int 0]))]) rfl rfl rfl rfl (by unfold vp_in; decide) rfl dX0_init_65 ?_
    refine c_iinc C (v := 4) 2 [(0, .ref h), (1, .ref t), (2, .int 4)] dX0_init_66 rfl (by decide) (by decide) rfl ?_
    refine c_goto C dX0_init_69 (tgt := 44) (by decide) ?_
    refine c_iload C 2 dX0_init_44 rfl rfl ?_
    refine c_aload C 0 dX0_init_45 rfl rfl ?_
    refine c_get C (.ref a2) 8 1 rfl inX0 rfl (by decide) fk_X0_17 rfl rfl dX0_init_46 ?_
    refine c_alen C (t := 2) (v := 7) 6 rfl rfl rfl dX0_init_49 ?_
    refine c_icmp_ge C dX0_init_50 (tgt := 72) (by decide) (fun q => absurd q (by decide)) (fun _ => ?_)
    refine c_aload C 0 dX0_init_53 rfl rfl ?_
    refine c_get C (.ref a2) 8 1 rfl inX0 rfl (by decide) fk_X0_17 rfl rfl dX0_init_54 ?_
    refine c_iload C 2 dX0_init_57 rfl rfl ?_
    refine c_new C hA (ci := 1) (N := 6) [.int 0, .int 0, .int 0, .int 0, .int 0, .int 0] rfl inX1 tyX1 tyX1_ok cl_X0_15 ins_X1 ini_X1 (by decide) dX0_init_58 (by decide) (by decide) (fun o9 => ?_)
    refine c_dup C dX0_init_61 ?_
    refine c_mkN (n := 0) [(o9, .inr (1, [.int 0, .int 0, .int 0, .int 0, .int 0, .int 0]))] ([(o8, .inr (1, [.int 0, .int 0, .int 0, .int 0, .int 0, .int 0])), (o7, .inr (1, [.int 0, .int 0, .int 0, .int 0, .int 0, .int 0])), (o6, .inr (1, [.int 0, .int 0, .int 0, .int 0, .int 0, .int 0])), (o5, .inr (1, [.int 0, .int 0, .int 0, .int 0, .int 0, .int 0])), (a4, .inl (gC g 0, 6, .inl fun _ => 0)), (a3, .inl (gC g 0, 16, .inl fun _ => 0)), (a2, .inl (gC g 2, 7, .inr (.inr (.inr (.inr (va_up (va_up (va_up (va_up (fun _ => none) 0 (some o5)) 1 (some o6)) 2 (some o7)) 3 (some o8))))))), (a1, .inl (gC g 0, 16, .inl fun _ => 0)), (h, .inr (0, [.ref a1, .ref a2, .ref a3, .ref a4, .ref t, .int 0, .int 0, .int 0, .int 0]))]) o9 [.ref o9, .int 4, .ref a2] [] C hA hAg hO k_X1 ⟨co_X1_init, ini_X1, ⟨by decide, by decide, by decide +kernel⟩, by decide, by decide, rfl, im_X1_init⟩ mk_X0_33 rfl (Nat.le_of_ble_eq_true rfl) (by decide) (by decide) dX0_init_62 rfl rfl ⟨_, rfl, rfl, ?_⟩
    refine c_aast C (t := 2) (ci := 1) 7 0 ([(o9, .inr (1, [.int 0, .int 0, .int 0, .int 0, .int 0, .int 0])), (o8, .inr (1, [.int 0, .int 0, .int 0, .int 0, .int 0, .int 0])), (o7, .inr (1, [.int 0, .int 0, .int 0, .int 0, .int 0, .int 0])), (o6, .inr (1, [.int 0, .int 0, .int 0, .int 0, .int 0, .int 0])), (o5, .inr (1, [.int 0, .int 0, .int 0, .int 0, .int 0, .int 0])), (a4, .inl (gC g 0, 6, .inl fun _ => 0)), (a3, .inl (gC g 0, 16, .inl fun _ => 0)), (a2, .inl (gC g 2, 7, .inr (.inr (.inr (.inr (va_up (va_up (va_up (va_up (va_up (fun _ => none) 0 (some o5)) 1 (some o6)) 2 (some o7)) 3 (some o8)) 4 (some o9))))))), (a1, .inl (gC g 0, 16, .inl fun _ => 0)), (h, .inr (0, [.ref a1, .ref a2, .ref a3, .ref a4, .ref t, .int 0, .int 0, .int 0, .int 0]))]) rfl rfl rfl rfl (by unfold vp_in; decide) rfl dX0_init_65 ?_
    refine c_iinc C (v := 5) 2 [(0, .ref h), (1, .ref t), (2, .int 5)] dX0_init_66 rfl (by decide) (by decide) rfl ?_
    refine c_goto C dX0_init_69 (tgt := 44) (by decide) ?_
    refine c_iload C 2 dX0_init_44 rfl rfl ?_
    refine c_aload C 0 dX0_init_45 rfl rfl ?_
    refine c_get C (.ref a2) 9 1 rfl inX0 rfl (by decide) fk_X0_17 rfl rfl dX0_init_46 ?_
    refine c_alen C (t := 2) (v := 7) 7 rfl rfl rfl dX0_init_49 ?_
    refine c_icmp_ge C dX0_init_50 (tgt := 72) (by decide) (fun q => absurd q (by decide)) (fun _ => ?_)
    refine c_aload C 0 dX0_init_53 rfl rfl ?_
    refine c_get C (.ref a2) 9 1 rfl inX0 rfl (by decide) fk_X0_17 rfl rfl dX0_init_54 ?_
    refine c_iload C 2 dX0_init_57 rfl rfl ?_
    refine c_new C hA (ci := 1) (N := 6) [.int 0, .int 0, .int 0, .int 0, .int 0, .int 0] rfl inX1 tyX1 tyX1_ok cl_X0_15 ins_X1 ini_X1 (by decide) dX0_init_58 (by decide) (by decide) (fun o10 => ?_)
    refine c_dup C dX0_init_61 ?_
    refine c_mkN (n := 0) [(o10, .inr (1, [.int 0, .int 0, .int 0, .int 0, .int 0, .int 0]))] ([(o9, .inr (1, [.int 0, .int 0, .int 0, .int 0, .int 0, .int 0])), (o8, .inr (1, [.int 0, .int 0, .int 0, .int 0, .int 0, .int 0])), (o7, .inr (1, [.int 0, .int 0, .int 0, .int 0, .int 0, .int 0])), (o6, .inr (1, [.int 0, .int 0, .int 0, .int 0, .int 0, .int 0])), (o5, .inr (1, [.int 0, .int 0, .int 0, .int 0, .int 0, .int 0])), (a4, .inl (gC g 0, 6, .inl fun _ => 0)), (a3, .inl (gC g 0, 16, .inl fun _ => 0)), (a2, .inl (gC g 2, 7, .inr (.inr (.inr (.inr (va_up (va_up (va_up (va_up (va_up (fun _ => none) 0 (some o5)) 1 (some o6)) 2 (some o7)) 3 (some o8)) 4 (some o9))))))), (a1, .inl (gC g 0, 16, .inl fun _ => 0)), (h, .inr (0, [.ref a1, .ref a2, .ref a3, .ref a4, .ref t, .int 0, .int 0, .int 0, .int 0]))]) o10 [.ref o10, .int 5, .ref a2] [] C hA hAg hO k_X1 ⟨co_X1_init, ini_X1, ⟨by decide, by decide, by decide +kernel⟩, by decide, by decide, rfl, im_X1_init⟩ mk_X0_33 rfl (Nat.le_of_ble_eq_true rfl) (by decide) (by decide) dX0_init_62 rfl rfl ⟨_, rfl, rfl, ?_⟩
    refine c_aast C (t := 2) (ci := 1) 8 0 ([(o10, .inr (1, [.int 0, .int 0, .int 0, .int 0, .int 0, .int 0])), (o9, .inr (1, [.int 0, .int 0, .int 0, .int 0, .int 0, .int 0])), (o8, .inr (1, [.int 0, .int 0, .int 0, .int 0, .int 0, .int 0])), (o7, .inr (1, [.int 0, .int 0, .int 0, .int 0, .int 0, .int 0])), (o6, .inr (1, [.int 0, .int 0, .int 0, .int 0, .int 0, .int 0])), (o5, .inr (1, [.int 0, .int 0, .int 0, .int 0, .int 0, .int 0])), (a4, .inl (gC g 0, 6, .inl fun _ => 0)), (a3, .inl (gC g 0, 16, .inl fun _ => 0)), (a2, .inl (gC g 2, 7, .inr (.inr (.inr (.inr (va_up (va_up (va_up (va_up (va_up (va_up (fun _ => none) 0 (some o5)) 1 (some o6)) 2 (some o7)) 3 (some o8)) 4 (some o9)) 5 (some o10))))))), (a1, .inl (gC g 0, 16, .inl fun _ => 0)), (h, .inr (0, [.ref a1, .ref a2, .ref a3, .ref a4, .ref t, .int 0, .int 0, .int 0, .int 0]))]) rfl rfl rfl rfl (by unfold vp_in; decide) rfl dX0_init_65 ?_
    refine c_iinc C (v := 6) 2 [(0, .ref h), (1, .ref t), (2, .int 6)] dX0_init_66 rfl (by decide) (by decide) rfl ?_
    refine c_goto C dX0_init_69 (tgt := 44) (by decide) ?_
    refine c_iload C 2 dX0_init_44 rfl rfl ?_
    refine c_aload C 0 dX0_init_45 rfl rfl ?_
    refine c_get C (.ref a2) 10 1 rfl inX0 rfl (by decide) fk_X0_17 rfl rfl dX0_init_46 ?_
    refine c_alen C (t := 2) (v := 7) 8 rfl rfl rfl dX0_init_49 ?_
    refine c_icmp_ge C dX0_init_50 (tgt := 72) (by decide) (fun q => absurd q (by decide)) (fun _ => ?_)
    refine c_aload C 0 dX0_init_53 rfl rfl ?_
    refine c_get C (.ref a2) 10 1 rfl inX0 rfl (by decide) fk_X0_17 rfl rfl dX0_init_54 ?_
    refine c_iload C 2 dX0_init_57 rfl rfl ?_
    refine c_new C hA (ci := 1) (N := 6) [.int 0, .int 0, .int 0, .int 0, .int 0, .int 0] rfl inX1 tyX1 tyX1_ok cl_X0_15 ins_X1 ini_X1 (by decide) dX0_init_58 (by decide) (by decide) (fun o11 => ?_)
    refine c_dup C dX0_init_61 ?_
    refine c_mkN (n := 0) [(o11, .inr (1, [.int 0, .int 0, .int 0, .int 0, .int 0, .int 0]))] ([(o10, .inr (1, [.int 0, .int 0, .int 0, .int 0, .int 0, .int 0])), (o9, .inr (1, [.int 0, .int 0, .int 0, .int 0, .int 0, .int 0])), (o8, .inr (1, [.int 0, .int 0, .int 0, .int 0, .int 0, .int 0])), (o7, .inr (1, [.int 0, .int 0, .int 0, .int 0, .int 0, .int 0])), (o6, .inr (1, [.int 0, .int 0, .int 0, .int 0, .int 0, .int 0])), (o5, .inr (1, [.int 0, .int 0, .int 0, .int 0, .int 0, .int 0])), (a4, .inl (gC g 0, 6, .inl fun _ => 0)), (a3, .inl (gC g 0, 16, .inl fun _ => 0)), (a2, .inl (gC g 2, 7, .inr (.inr (.inr (.inr (va_up (va_up (va_up (va_up (va_up (va_up (fun _ => none) 0 (some o5)) 1 (some o6)) 2 (some o7)) 3 (some o8)) 4 (some o9)) 5 (some o10))))))), (a1, .inl (gC g 0, 16, .inl fun _ => 0)), (h, .inr (0, [.ref a1, .ref a2, .ref a3, .ref a4, .ref t, .int 0, .int 0, .int 0, .int 0]))]) o11 [.ref o11, .int 6, .ref a2] [] C hA hAg hO k_X1 ⟨co_X1_init, ini_X1, ⟨by decide, by decide, by decide +kernel⟩, by decide, by decide, rfl, im_X1_init⟩ mk_X0_33 rfl (Nat.le_of_ble_eq_true rfl) (by decide) (by decide) dX0_init_62 rfl rfl ⟨_, rfl, rfl, ?_⟩
    refine c_aast C (t := 2) (ci := 1) 9 0 ([(o11, .inr (1, [.int 0, .int 0, .int 0, .int 0, .int 0, .int 0])), (o10, .inr (1, [.int 0, .int 0, .int 0, .int 0, .int 0, .int 0])), (o9, .inr (1, [.int 0, .int 0, .int 0, .int 0, .int 0, .int 0])), (o8, .inr (1, [.int 0, .int 0, .int 0, .int 0, .int 0, .int 0])), (o7, .inr (1, [.int 0, .int 0, .int 0, .int 0, .int 0, .int 0])), (o6, .inr (1, [.int 0, .int 0, .int 0, .int 0, .int 0, .int 0])), (o5, .inr (1, [.int 0, .int 0, .int 0, .int 0, .int 0, .int 0])), (a4, .inl (gC g 0, 6, .inl fun _ => 0)), (a3, .inl (gC g 0, 16, .inl fun _ => 0)), (a2, .inl (gC g 2, 7, .inr (.inr (.inr (.inr (va_up (va_up (va_up (va_up (va_up (va_up (va_up (fun _ => none) 0 (some o5)) 1 (some o6)) 2 (some o7)) 3 (some o8)) 4 (some o9)) 5 (some o10)) 6 (some o11))))))), (a1, .inl (gC g 0, 16, .inl fun _ => 0)), (h, .inr (0, [.ref a1, .ref a2, .ref a3, .ref a4, .ref t, .int 0, .int 0, .int 0, .int 0]))]) rfl rfl rfl rfl (by unfold vp_in; decide) rfl dX0_init_65 ?_
    refine c_iinc C (v := 7) 2 [(0, .ref h), (1, .ref t), (2, .int 7)] dX0_init_66 rfl (by decide) (by decide) rfl ?_
    refine c_goto C dX0_init_69 (tgt := 44) (by decide) ?_
    refine c_iload C 2 dX0_init_44 rfl rfl ?_
    refine c_aload C 0 dX0_init_45 rfl rfl ?_
    refine c_get C (.ref a2) 11 1 rfl inX0 rfl (by decide) fk_X0_17 rfl rfl dX0_init_46 ?_
    refine c_alen C (t := 2) (v := 7) 9 rfl rfl rfl dX0_init_49 ?_
    refine c_icmp_ge C dX0_init_50 (tgt := 72) (by decide) (fun _ => ?_) (fun q => absurd (by decide) q)
    exact c_end C hAe dX0_init_72 (HQ a1 a2 a3 a4 o5 o6 o7 o8 o9 o10 o11)
