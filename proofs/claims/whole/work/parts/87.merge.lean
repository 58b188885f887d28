/-! ===== both worlds, side by side ===== -/
def adL (adC adM : Nat → Nat) : Nat → Nat := fun q => if q < 76 then adC q else adM q
def ML (MC MM' : MM) : MM := fun q => if q < 76 then MC q else MM' q
def idsL : List Nat := ids6 ++ (idsC ++ [])
theorem J_start {MC MM' : MM} (hC : okC MC) (hM : okM6 MM') : J (ML MC MM') := ⟨st0, SOK0, RC.hi hC.1 SOK0 (fun a ha => if_pos ha), RM.lo hM (fun a ha => if_neg (by omega))⟩
theorem L_C : ∀ q ∈ idsC, q < 76 := by decide
theorem L_6 : ∀ q ∈ ids6, 76 ≤ q ∧ q < 102 := by decide
theorem C_rfo : ∀ q, q < 76 → ∀ j, j < 47 → sty (kd q) j = 1 → q + rfo (kd q) j < 76 := by decide +kernel
theorem C_aof : ∀ q, q < 76 → 9 ≤ kd q → ∀ i, i < ln q → q + aof (kd q) i < 76 := by decide +kernel
theorem C_day : ∀ q, q < 76 → kd q = 0 → q = 40 ∨ q = 52 ∨ q = 64 := by decide +kernel
theorem N_rfo : ∀ q, q < 102 → ∀ j, j < 47 → 76 ≤ q → sty (kd q) j = 1 → 76 ≤ q + rfo (kd q) j ∧ q + rfo (kd q) j < 102 := by decide +kernel
theorem N_kd : ∀ q, q < 102 → 76 ≤ q → kd q < 9 ∧ ¬ kd q = 0 := by decide +kernel
theorem mkG_ad {g : WG} {adr : Nat → Nat} {ids : List Nat} {A : Nat → Prop} {q : Nat} (h : q < 200) : gad (mkG g adr ids A) q = adr q := if_pos h
theorem ws_LC {D : va_G} {H : Heap} (g : WG) (adC adM : Nat → Nat) (MC MM' : MM) (A : Nat → Prop) (ids : List Nat) (hC : okC MC) (h : va_P D vwCl (wsM (mkg g adC idsC) MC) H) : va_P D vwCl (idsC.map fun q => (gad (mkG g (adL adC adM) ids A) q, eE (mkG g (adL adC adM) ids A) (ML MC MM') q)) H := by
  refine vP_iff.mpr fun x hx => ?_
  obtain ⟨q, hq, rfl⟩ := List.mem_map.mp hx
  have q2 := L_C q hq
  have hh := vP_iff.mp h (gad (mkg g adC idsC) q, eE (mkg g adC idsC) MC q) (List.mem_map.mpr ⟨q, hq, rfl⟩)
  have ga : ∀ r, r < 76 → gad (mkg g adC idsC) r = gad (mkG g (adL adC adM) ids A) r := fun r hr => by rw [mkg_ad (by omega), mkG_ad (by omega)]; exact (if_pos hr).symm
  refine at_congr (g := mkg g adC idsC) (g' := mkG g (adL adC adM) ids A) (fun _ => rfl) rfl rfl (ga q q2) (if_pos q2).symm (fun j hj hs => ga _ (C_rfo q q2 j hj hs)) (fun h9 i hi => ga _ (C_aof q q2 h9 i hi)) (fun j hs => ?_) hh
  obtain ⟨k0, rfl⟩ := sty_2 hs
  have h8 : MC q 4 = 8 := by
    rcases C_day q q2 k0 with rfl | rfl | rfl
    · exact hC.2.1
    · exact hC.2.2.1
    · exact hC.2.2.2
  rw [h8, rdv_8]
  show Value.ref _ = Value.ref _
  rw [ga 8 (by decide)]
theorem ws_LM {D : va_G} {H : Heap} (g : WG) (adC adM : Nat → Nat) (MC MM' : MM) (A : Nat → Prop) (ids : List Nat) (h : va_P D vwCl (wsM (mkg g adM ids6) MM') H) : va_P D vwCl (ids6.map fun q => (gad (mkG g (adL adC adM) ids A) q, eE (mkG g (adL adC adM) ids A) (ML MC MM') q)) H := by
  refine vP_iff.mpr fun x hx => ?_
  obtain ⟨q, hq, rfl⟩ := List.mem_map.mp hx
  obtain ⟨q1, q2⟩ := L_6 q hq
  have hh := vP_iff.mp h (gad (mkg g adM ids6) q, eE (mkg g adM ids6) MM' q) (List.mem_map.mpr ⟨q, hq, rfl⟩)
  have ga : ∀ r, 76 ≤ r ∧ r < 102 → gad (mkg g adM ids6) r = gad (mkG g (adL adC adM) ids A) r := fun r hr => by rw [mkg_ad (by omega), mkG_ad (by omega)]; exact (if_neg (by omega)).symm
  exact at_congr (g := mkg g adM ids6) (g' := mkG g (adL adC adM) ids A) (fun _ => rfl) rfl rfl (ga q ⟨q1, q2⟩) (if_neg (by omega)).symm (fun j hj hs => ga _ (N_rfo q q2 j hj q1 hs)) (fun h9 => absurd h9 (by have := (N_kd q q2 q1).1; omega)) (fun j hs => absurd (sty_2 hs).1 (N_kd q q2 q1).2) hh
theorem ws_L {D : va_G} {H : Heap} (g : WG) (adC adM : Nat → Nat) (MC MM' : MM) (A : Nat → Prop) (hC : okC MC) (h : va_P D vwCl (wsM (mkg g adM ids6) MM' ++ (wsM (mkg g adC idsC) MC ++ [])) H) : va_P D vwCl (wsM (mkG g (adL adC adM) idsL A) (ML MC MM')) H := by
  obtain ⟨p1, p2⟩ := vP_app.mp h
  obtain ⟨p2, -⟩ := vP_app.mp p2
  have h1 := ws_LM g adC adM MC MM' A idsL p1
  have h2 := ws_LC g adC adM MC MM' A idsL hC p2
  show va_P D vwCl ((ids6 ++ (idsC ++ [])).map fun q => (gad (mkG g (adL adC adM) idsL A) q, eE (mkG g (adL adC adM) idsL A) (ML MC MM') q)) H
  rw [List.map_append, List.append_nil]
  exact vP_app.mpr ⟨h1, h2⟩
theorem ws_Ladr (g : WG) (adC adM : Nat → Nat) (MC MM' : MM) (A : Nat → Prop) : (wsM (mkg g adM ids6) MM' ++ (wsM (mkg g adC idsC) MC ++ [])).map Prod.fst = (wsM (mkG g (adL adC adM) idsL A) (ML MC MM')).map Prod.fst := by
  show _ = ((ids6 ++ (idsC ++ [])).map fun q => (gad (mkG g (adL adC adM) idsL A) q, eE (mkG g (adL adC adM) idsL A) (ML MC MM') q)).map Prod.fst
  simp only [wsM, List.map_append, List.append_nil, List.map_map]
  rfl
theorem fullL (g : WG) (adC adM : Nat → Nat) (A : Nat → Prop) : Full (mkG g (adL adC adM) idsL A) := fun q h1 h2 => ⟨(by decide : ∀ q, q < 102 → q ∈ idsL) q h2, rfl⟩
