/-! ===== a world by its addresses ===== -/
def mkg (g : WG) (adr : Nat → Nat) (ids : List Nat) : WG := (gD g, gC g, fun q => if q < 200 then adr q else gad g q, ids, fun q => ∃ i, i ∈ ids ∧ (if i < 200 then adr i else gad g i) = q, fun _ => false)
theorem mkg_cell (g : WG) (adr : Nat → Nat) (ids : List Nat) : isCell (mkg g adr ids) := fun _ h => h
theorem mkg_in (g : WG) (adr : Nat → Nat) (ids : List Nat) : ∀ i, i ∈ gids (mkg g adr ids) → gA (mkg g adr ids) (gad (mkg g adr ids) i) := fun i h => ⟨i, h, rfl⟩
theorem mkg_ad {g : WG} {adr : Nat → Nat} {ids : List Nat} {q : Nat} (h : q < 200) : gad (mkg g adr ids) q = adr q := if_pos h
theorem mkg_out {g : WG} {adr : Nat → Nat} {ids : List Nat} {q : Nat} (h : 200 ≤ q) : gad (mkg g adr ids) q = gad g q := if_neg (by omega)
theorem mkg_sub {g : WG} {adr : Nat → Nat} {ids : List Nat} (h : ∀ q, gA (mkg g adr ids) q → gA g q) : Sub (mkg g adr ids) g := ⟨rfl, rfl, fun _ hq => mkg_out hq, h⟩
/-- what lies in a world of such cells lies where the cells may lie -/
theorem mkg_gA {g : WG} {adr : Nat → Nat} {ids : List Nat} {fr : va_W} {M : MM} {A : Nat → Prop} (hD : va_D A (fr ++ wsM (mkg g adr ids) M)) : ∀ q, gA (mkg g adr ids) q → A q := by
  rintro q ⟨i, hi, rfl⟩
  obtain ⟨k, -, hk⟩ := wsM_in (g := mkg g adr ids) M hi
  exact vD_in (vD_app hD).2.1 (x := (gad (mkg g adr ids) i, eE (mkg g adr ids) M i)) (List.mem_of_getElem? hk)
theorem e7 {g : WG} {M : MM} {q : Nat} (h : kd q = 7) : eE g M q = .inl (gC g 0, ln q, .inl (M q)) := by simp [eE, h]
theorem e8 {g : WG} {M : MM} {q : Nat} (h : kd q = 8) : eE g M q = .inl (gC g 1, ln q, .inl (M q)) := by simp [eE, h]
theorem vP_cons {D : va_G} {cl : List vw_C} {x : Nat × va_E} {ws : va_W} {H : Heap} : va_P D cl (x :: ws) H ↔ va_at D cl x H ∧ va_P D cl ws H :=
  ⟨fun h => ⟨vP_iff.mp h x List.mem_cons_self, vP_iff.mpr fun y hy => vP_iff.mp h y (List.mem_cons_of_mem _ hy)⟩, fun h => vP_iff.mpr fun y hy => by
    rcases List.mem_cons.mp hy with hy | hy
    · rw [hy]; exact h.1
    · exact vP_iff.mp h.2 y hy⟩
theorem at_row {D : va_G} {cl : List vw_C} {a n : Nat} {cA : ClassId} {f f' : Nat → Option Nat} {H : Heap} (h : ∀ i, i < n → f i = f' i) (k : va_at D cl (a, .inl (cA, n, .inr (.inr (.inr (.inr f))))) H) : va_at D cl (a, .inl (cA, n, .inr (.inr (.inr (.inr f'))))) H := by
  show H[a]? = some (vp_cell cA (n, .inr (.inr (.inr (.inr f')))))
  have e : vp_cell cA (n, .inr (.inr (.inr (.inr f)))) = vp_cell cA (n, .inr (.inr (.inr (.inr f')))) := by
    rw [vp_cell_q, vp_cell_q]
    unfold arrV
    congr 2
    funext j
    exact congrArg va_rf (h j.1 j.2)
  rw [← e]
  exact k
theorem sty_b {k j : Nat} (h : sty k j = 1) : j < 47 := by
  rcases Nat.lt_or_ge j 47 with w | w
  · exact w
  · exfalso
    unfold sty at h
    split at h
    · split at h
      · omega
      · split at h <;> omega
    · split at h <;> omega
    · split at h <;> omega
    · split at h
      · omega
      · split at h <;> omega
    · split at h <;> omega
    · rw [if_pos (by
        unfold rfo
        split <;> first | omega | rfl)] at h
      omega
    · omega
theorem at_congr {D : va_G} {cl : List vw_C} {a a' : Nat} {H : Heap} {g g' : WG} {M M' : MM} {q : Nat} (hC : ∀ k, gC g k = gC g' k) (hf : gfl g q = false) (hf' : gfl g' q = false) (haa : a = a') (hM : M q = M' q) (ha : ∀ j, j < 47 → sty (kd q) j = 1 → gad g (q + rfo (kd q) j) = gad g' (q + rfo (kd q) j)) (hi : 9 ≤ kd q → ∀ i, i < ln q → gad g (q + aof (kd q) i) = gad g' (q + aof (kd q) i)) (hd : ∀ j, sty (kd q) j = 2 → ev g (rdv (M q j)) = ev g' (rdv (M q j))) (k : va_at D cl (a, eE g M q) H) : va_at D cl (a', eE g' M' q) H := by
  subst haa
  unfold eE at k ⊢
  rw [← hM, ← hC 0, ← hC 1, ← hC (kd q - 7)]
  have h1 : ∀ j, ev g (fv g M q j) = ev g' (fv g' M' q j) := by
    intro j
    unfold fv
    rw [← hM, hf, hf']
    split
    · rfl
    · split
      · next h1 h2 =>
        show Value.ref _ = Value.ref _
        rw [ha j (sty_b h2.1) h2.1]
      · next h1 h2 =>
        refine hd j ?_
        have : sty (kd q) j ≤ 2 := by
          unfold sty
          split <;> (try split) <;> (try split) <;> omega
        simp only [and_true] at h2
        omega
  have h3 : (fun j => ev g (fv g M q j)) = fun j => ev g' (fv g' M' q j) := funext h1
  rw [← h3]
  split
  · next c => rw [if_pos c] at k; exact k
  · next c =>
    rw [if_neg c] at k
    split
    · next c2 => rw [if_pos c2] at k; exact k
    · next c2 =>
      rw [if_neg c2] at k
      split
      · next c3 => rw [if_pos c3] at k; exact k
      · next c3 =>
        rw [if_neg c3] at k
        refine at_row (fun i hi' => ?_) k
        unfold era
        rw [hf, hf', if_pos rfl, if_pos rfl, hi (by omega) i hi']
/-! the class's own, when its texts and sheets are made -/
def tx0 (t : Int32) : Nat → Int32 := fun j => if j = 0 then t else 0
def sh0 : Nat → Int32 := fun j => if j = 1 then -1 else 0
def M0 : MM := fun q => match q with
  | 8 => tx0 0 | 12 => tx0 1 | 16 => tx0 2 | 20 => tx0 3 | 24 => tx0 4 | 28 => tx0 5 | 32 => sh0 | 34 => sh0 | 36 => sh0 | 38 => sh0
  | _ => fun _ => 0
def idsA : List Nat := [39, 38, 37, 36, 35, 34, 33, 32, 31, 30, 29, 28, 27, 26, 25, 24, 23, 22, 21, 20, 19, 18, 17, 16, 15, 14, 13, 12, 11, 10, 9, 8, 7, 6, 5, 4, 3]
abbrev cw (g : WG) (adr : Nat → Nat) (ids : List Nat) (M : MM) (l : List Nat) : va_W := l.map fun q => (gad (mkg g adr ids) q, eE (mkg g adr ids) M q)
theorem cw_text0 (g : WG) (adr : Nat → Nat) (ids : List Nat) : cw g adr ids M0 [11, 10, 9, 8] = textW g 0 (adr 8) (adr 9) (adr 10) (adr 11) := rfl
theorem cw_text1 (g : WG) (adr : Nat → Nat) (ids : List Nat) : cw g adr ids M0 [15, 14, 13, 12] = textW g 1 (adr 12) (adr 13) (adr 14) (adr 15) := rfl
theorem cw_text2 (g : WG) (adr : Nat → Nat) (ids : List Nat) : cw g adr ids M0 [19, 18, 17, 16] = textW g 2 (adr 16) (adr 17) (adr 18) (adr 19) := rfl
theorem cw_text3 (g : WG) (adr : Nat → Nat) (ids : List Nat) : cw g adr ids M0 [23, 22, 21, 20] = textW g 3 (adr 20) (adr 21) (adr 22) (adr 23) := rfl
theorem cw_text4 (g : WG) (adr : Nat → Nat) (ids : List Nat) : cw g adr ids M0 [27, 26, 25, 24] = textW g 4 (adr 24) (adr 25) (adr 26) (adr 27) := rfl
theorem cw_text5 (g : WG) (adr : Nat → Nat) (ids : List Nat) : cw g adr ids M0 [31, 30, 29, 28] = textW g 5 (adr 28) (adr 29) (adr 30) (adr 31) := rfl
theorem cw_sheet0 (g : WG) (adr : Nat → Nat) (ids : List Nat) : cw g adr ids M0 [33, 32] = sheetW g (adr 32) (adr 33) := rfl
theorem cw_sheet1 (g : WG) (adr : Nat → Nat) (ids : List Nat) : cw g adr ids M0 [35, 34] = sheetW g (adr 34) (adr 35) := rfl
theorem cw_sheet2 (g : WG) (adr : Nat → Nat) (ids : List Nat) : cw g adr ids M0 [37, 36] = sheetW g (adr 36) (adr 37) := rfl
theorem cw_sheet3 (g : WG) (adr : Nat → Nat) (ids : List Nat) : cw g adr ids M0 [39, 38] = sheetW g (adr 38) (adr 39) := rfl
theorem cw_tape (g : WG) (adr : Nat → Nat) (ids : List Nat) : cw g adr ids M0 [7, 6, 5, 4, 3] = tapeW g (adr 3) (adr 4) (adr 5) (adr 6) (adr 7) := rfl
theorem ws_A (g : WG) (adr : Nat → Nat) (fr : va_W) : wsM (mkg g adr idsA) M0 ++ fr = sheetW g (adr 38) (adr 39) ++ (sheetW g (adr 36) (adr 37) ++ (sheetW g (adr 34) (adr 35) ++ (sheetW g (adr 32) (adr 33) ++ (textW g 5 (adr 28) (adr 29) (adr 30) (adr 31) ++ (textW g 4 (adr 24) (adr 25) (adr 26) (adr 27) ++ (textW g 3 (adr 20) (adr 21) (adr 22) (adr 23) ++ (textW g 2 (adr 16) (adr 17) (adr 18) (adr 19) ++ (textW g 1 (adr 12) (adr 13) (adr 14) (adr 15) ++ (textW g 0 (adr 8) (adr 9) (adr 10) (adr 11) ++ (tapeW g (adr 3) (adr 4) (adr 5) (adr 6) (adr 7) ++ fr)))))))))) := by
  rw [← cw_text0 g adr idsA, ← cw_text1 g adr idsA, ← cw_text2 g adr idsA, ← cw_text3 g adr idsA, ← cw_text4 g adr idsA, ← cw_text5 g adr idsA, ← cw_sheet0 g adr idsA, ← cw_sheet1 g adr idsA, ← cw_sheet2 g adr idsA, ← cw_sheet3 g adr idsA, ← cw_tape g adr idsA]
  simp only [cw, ← List.append_assoc, ← List.map_append]
  rfl
