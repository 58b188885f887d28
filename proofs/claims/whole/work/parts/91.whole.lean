/-- from the entry, for every script of at most 3072 ints, the law comes to its end with true -/
theorem whole_start {p : Program} {e : Env} {s : State} {m : MethodId} {below : List Frame} {meth : Method} {c : Code} (l : Launch) (hflags : l.flags = flags0) {b L : Nat} {xs : Nat → Int32} (hL : L ≤ 3072) (C0 : lw_At p s m meth c b L xs) : W p l e room_1 s m #[Value.ref b] below meth c s.heap [] 0 0 (lw_Z below #[Value.ref b] s) (entryFrame m ([Value.ref b] : List Value).toArray 4) := by
  obtain ⟨hx, hb, hr, hml, hown, hts, hX, hbl, hlocks, hgv⟩ := C0
  obtain ⟨g, hK, hE, hO, hb2, hgA⟩ := law_world hts hgv
  subst hb2
  have C : Cx p s m #[Value.ref (gad g 1002)] meth c cL_law 4 RL ret g := ⟨hx, hb, hml, hown, fun w hw => hts w (List.mem_filter.mp hw).1, hr, hlocks, hK, hE⟩
  have hA : ∀ q, s.heap.size ≤ q → gA g q := by rw [hgA]; exact fun _ h => h
  have K : SC p l e room_1 s m #[Value.ref (gad g 1002)] below meth c 4 g (gA g) (lw_Z below #[Value.ref (gad g 1002)] s) 0 0 0 [(0, .ref (gad g 1002))] [] [] := by
    refine c_new C hA (ci := 5) (N := 8) [.null, .null, .null, .null, .null, .null, .int 0, .int 0] rfl inX5 tyX5 tyX5_ok cl_L_7 ins_X5 ini_X5 (by decide) dL_law_0 (by decide) (by decide) (fun q0 => ?_)
    refine c_dup C dL_law_3 ?_
    refine c_mkI (n := 0) [(q0, .inr (5, [.null, .null, .null, .null, .null, .null, .int 0, .int 0]))] [] q0 [.ref q0] [] C hA (fun _ h => h) hO k_X5 ⟨co_X5_init, ini_X5, ⟨by decide, by decide, by decide +kernel⟩, by decide, by decide, rfl, im_X5_init⟩ mk_L_9 rfl (Nat.le_of_ble_eq_true rfl) (by decide) (by decide) dL_law_4 rfl rfl ⟨_, rfl, rfl, fun adC MC hC0 hC => ?_⟩
    refine c_astore C 1 [(0, .ref (gad g 1002)), (1, .ref q0)] dL_law_7 rfl (by decide) rfl ?_
    refine c_new C hA (ci := 6) (N := 47) [.int 0, .null, .int 0, .null, .null, .null, .null, .null, .null, .int 0, .int 0, .null, .int 0, .null, .null, .null, .int 0, .int 0, .int 0, .int 0, .int 0, .int 0, .null, .int 0, .int 0, .int 0, .int 0, .int 0, .null, .null, .null, .null, .int 0, .null, .null, .null, .int 0, .null, .int 0, .int 0, .int 0, .int 0, .null, .null, .null, .null, .null] rfl inX6 tyX6 tyX6_ok cl_L_10 ins_X6 ini_X6 (by decide) dL_law_8 (by decide) (by decide) (fun q1 => ?_)
    refine c_dup C dL_law_11 ?_
    refine c_mkI (n := 0) [(q1, .inr (6, [.int 0, .null, .int 0, .null, .null, .null, .null, .null, .null, .int 0, .int 0, .null, .int 0, .null, .null, .null, .int 0, .int 0, .int 0, .int 0, .int 0, .int 0, .null, .int 0, .int 0, .int 0, .int 0, .int 0, .null, .null, .null, .null, .int 0, .null, .null, .null, .int 0, .null, .int 0, .int 0, .int 0, .int 0, .null, .null, .null, .null, .null]))] (wsM (mkg g adC idsC) MC ++ []) q1 [.ref q1] [] C hA (fun _ h => h) hO k_X6 ⟨co_X6_init, ini_X6, ⟨by decide, by decide, by decide +kernel⟩, by decide, by decide, rfl, im_X6_init⟩ mk_L_12 rfl (Nat.le_of_ble_eq_true rfl) (by decide) (by decide) dL_law_12 rfl rfl ⟨_, rfl, rfl, fun adM MM' hM0 hM => ?_⟩
    subst hC0
    subst hM0
    refine c_astore C 2 [(0, .ref (gad g 1002)), (1, .ref (adC 0)), (2, .ref (adM 76))] dL_law_15 rfl (by decide) rfl ?_
    refine c_iconst C 0 dL_law_16 (by decide) ?_
    refine c_istore C 3 [(0, .ref (gad g 1002)), (1, .ref (adC 0)), (2, .ref (adM 76)), (3, .int (nI 0))] dL_law_17 rfl (by decide) rfl ?_
    refine c_ws (wsM (mkG g (adL adC adM) idsL (gA g)) (ML MC MM')) (fun D H h => ws_L g adC adM MC MM' (gA g) hC h) (ws_Ladr g adC adM MC MM' (gA g)) ?_
    have hsub : Sub (mkG g (adL adC adM) idsL (gA g)) g := mkG_sub fun _ h => h
    have C2 : Cx p s m #[Value.ref (gad g 1002)] meth c cL_law 4 RL ret (mkG g (adL adC adM) idsL (gA g)) := ⟨hx, hb, hml, hown, C.2.2.2.2.1, hr, hlocks, hK, Ext.sub hsub hE⟩
    have hbA : ¬ gA (mkG g (adL adC adM) idsL (gA g)) (gad (mkG g (adL adC adM) idsL (gA g)) 1002) := by
      show ¬ gA g (gad g 1002)
      rw [hgA]
      exact Nat.not_le.mpr hbl
    exact c_toK (g := mkG g (adL adC adM) idsL (gA g)) (lv := [(0, .ref 1002), (1, .ref 0), (2, .ref 76), (3, .int (nI 0))]) (st := []) rfl rfl (law_loop C2 hX hbl hbA (fullL g adC adM (gA g)) (by decide) (by decide) hL (law_end hx hb hr hlocks (fun q h => by have h : gA g q := h; rw [hgA] at h; exact h) (by decide) (by decide)) L 0 (by omega) (by omega)) ⟨rfl, rfl, J_start hC hM⟩
  have hl := lv_entry ([.ref (gad g 1002)]) (n := 4) (Nat.le_of_ble_eq_true rfl)
  rw [lg_entry_eq]
  generalize (lg_sl ([.ref (gad g 1002)]) ++ List.replicate (4 - (lg_sl ([.ref (gad g 1002)])).length) Slot.unset).toArray = ls at hl ⊢
  exact K s.heap [] ls hl vP_nil vD_nil va_S.rf
