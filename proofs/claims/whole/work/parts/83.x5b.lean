/-! the rule goes upon the tape -/
def Mt (i : Nat) : MM := fun q j => if q = 4 ∧ j < i then ruB j else if q = 3 ∧ j = 4 then nI i else M0 q j
theorem Mt_0 : Mt 0 = M0 := by
  funext q j
  unfold Mt
  rw [if_neg (by omega)]
  split
  · next h => obtain ⟨rfl, rfl⟩ := h; rfl
  · rfl
theorem Mt_s (i : Nat) : mset (mset (Mt i) 4 i (ruB i)) 3 4 (nI (i + 1)) = Mt (i + 1) := by
  funext q j
  unfold mset Mt
  by_cases h3 : q = 3
  · subst h3
    by_cases h4 : j = 4
    · subst h4; simp
    · simp [h4]
  · by_cases h4 : q = 4
    · subst h4
      by_cases hj : j = i
      · subst hj; simp
      · by_cases hl : j < i
        · have : j < i + 1 := by omega
          simp [hj, hl, this]
        · have : ¬ j < i + 1 := by omega
          simp [hj, hl, this]
    · simp [h3, h4]
theorem Mt_3 (i : Nat) : Mt i 3 4 = nI i := by simp [Mt]
theorem Mt_4 {i j : Nat} (h : j < i) : Mt i 4 j = ruB j := by simp [Mt, h]
theorem regA (g : WG) (adr : Nat → Nat) : Reg (mkg g adr idsA) 3 40 := fun q h1 h2 => ⟨(by decide : ∀ q, q < 40 → 3 ≤ q → q ∈ idsA) q h2 h1, rfl⟩
theorem regT (g : WG) (adr : Nat → Nat) : Reg (mkg g adr idsA) 3 32 := fun q h1 h2 => regA g adr q h1 (by omega)
set_option maxRecDepth 100000 in
set_option maxHeartbeats 4000000 in
theorem x5_b {p : Program} {l : Launch} {e : Env} {s : State} {m : MethodId} {args : Array Value} {below : List Frame} {meth : Method} {c : Code} {g : WG} {A : Nat → Prop} {Qf : State → Prop} {adr : Nat → Nat} {v3 v4 v5 : Value} {n6 : Int32} (C : Cx p s m args meth c cX5_init 2 RX5 none g) (hAg : ∀ q, A q → gA g q)
    (kk : SC p l e (rmK 57 75 3089) s m args below meth c 2 g A Qf 39 2801 117 [(0, .ref (adr 0)), (1, .int (nI 45))] [] (frA g adr [.ref (adr 1), .ref (adr 2), .ref (adr 3), v3, v4, v5, .int n6, .int 0] ++ wsM (mkg g adr idsA) (Mt 45))) :
    ∀ k i, i + k = 45 → SC p l e (rmK 57 75 3089) s m args below meth c 2 g A Qf 39 2801 88 [(0, .ref (adr 0)), (1, .int (nI i))] [] (frA g adr [.ref (adr 1), .ref (adr 2), .ref (adr 3), v3, v4, v5, .int n6, .int 0] ++ wsM (mkg g adr idsA) (Mt i)) := by
  intro k
  induction k with
  | zero =>
    intro i hi
    have hi : i = 45 := by omega
    subst hi
    refine c_D fun hD => ?_
    have hA2 := mkg_gA hD
    have hsub := mkg_sub (fun q hq => hAg q (hA2 q hq))
    refine c_iload C 1 dX5_init_88 rfl rfl ?_
    refine c_ldcs C 0 rfl dX5_init_89 ?_
    refine c_ctS (i := 0) [] C hAg hsub (mkg_cell g adr idsA) (mkg_in g adr idsA) hA2 (by decide) t_J0_length_8abf5 co_J0_length_8abf5 ini_J0 ⟨by decide, by decide, by decide +kernel⟩ (by decide) (by decide) mk_X5_34 im_J0_length_8abf5 rfl se_J0_length_8abf5 rfl (Nat.le_of_ble_eq_true rfl) (by decide) (by decide) dX5_init_91 ⟨0, rfl, by decide, ?_⟩
    rw [ru_pl.1]
    exact c_icmp_ge C dX5_init_94 (tgt := 117) (by decide) (fun _ => kk) (fun q => absurd (Int32.le_refl _) q)
  | succ k ih =>
    intro i hi
    refine c_D fun hD => ?_
    have hA2 := mkg_gA hD
    have hsub := mkg_sub (fun q hq => hAg q (hA2 q hq))
    refine c_iload C 1 dX5_init_88 rfl rfl ?_
    refine c_ldcs C 0 rfl dX5_init_89 ?_
    refine c_ctS (i := 0) [] C hAg hsub (mkg_cell g adr idsA) (mkg_in g adr idsA) hA2 (by decide) t_J0_length_8abf5 co_J0_length_8abf5 ini_J0 ⟨by decide, by decide, by decide +kernel⟩ (by decide) (by decide) mk_X5_34 im_J0_length_8abf5 rfl se_J0_length_8abf5 rfl (Nat.le_of_ble_eq_true rfl) (by decide) (by decide) dX5_init_91 ⟨0, rfl, by decide, ?_⟩
    rw [ru_pl.1]
    refine c_icmp_ge C dX5_init_94 (tgt := 117) (by decide) (fun q => absurd q (nI_ge (by omega) (by decide))) (fun _ => ?_)
    refine c_aload C 0 dX5_init_97 rfl rfl ?_
    refine c_get C (.ref (adr 3)) 2 2 rfl inX5 rfl (by decide) fk_X5_24 rfl rfl dX5_init_98 ?_
    refine c_ldcs C 0 rfl dX5_init_101 ?_
    refine c_iload C 1 dX5_init_103 rfl rfl ?_
    refine c_ctS (i := 0) (n := 1) [.int (nI i)] C hAg hsub (mkg_cell g adr idsA) (mkg_in g adr idsA) hA2 (by decide) t_J0_charAt_5068e co_J0_charAt_5068e ini_J0 ⟨by decide, by decide, by decide +kernel⟩ (by decide) (by decide) mk_X5_40 im_J0_charAt_5068e rfl se_J0_charAt_5068e rfl (Nat.le_of_ble_eq_true rfl) (by decide) (by decide) dX5_init_104 ⟨0, i, rfl, by decide, by rw [ru_pl.1]; omega, ?_⟩
    refine c_ctN (q := 3) (ci := 3) (n := 1) [.int (ruB i)] C hAg hsub (mkg_cell g adr idsA) (mkg_in g adr idsA) hA2 (regT g adr 3 (by decide) (by decide)).1 (by decide) (by decide) rfl (t_X3_add (regT g adr)) co_X3_add ini_X3 ⟨by decide, by decide, by decide +kernel⟩ (by decide) (by decide) mk_X5_44 im_X3_add rfl se_X3_add rfl (Nat.le_of_ble_eq_true rfl) (by decide) (by decide) dX5_init_107 ⟨ruB i, i, rfl, Mt_3 i, by omega, fun q => absurd q (by omega), fun _ => ?_⟩
    rw [Mt_s]
    refine c_pop C dX5_init_110 ?_
    refine c_iinc C (v := nI (i + 1)) 1 [(0, .ref (adr 0)), (1, .int (nI (i + 1)))] dX5_init_111 rfl (nI_1 i) (by decide) rfl ?_
    refine c_goto C dX5_init_114 (tgt := 88) (by decide) ?_
    exact ih (i + 1) (by omega)
