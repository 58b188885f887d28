/-! ===== the class's maker: the world that it leaves ===== -/
def tx1 : Nat → Int32 := fun j => if j = 6 then 1 else 0
def dayf : Nat → Int32 := fun j => if j = 4 then 8 else 0
def Mfin (M' : MM) : MM := fun q => if 3 ≤ q ∧ q < 40 then M' q else if q = 0 then tx1 else if q = 40 ∨ q = 52 ∨ q = 64 then dayf else fun _ => 0
def idsD (b : Nat) : List Nat := [b + 11, b + 10, b + 9, b + 8, b + 7, b + 6, b + 5, b + 4, b + 3, b + 2, b + 1, b]
def idsC : List Nat := idsD 64 ++ (idsD 52 ++ (idsD 40 ++ ([2, 1, 0] ++ idsA)))
theorem rdv_8 : rdv 8 = .ref 8 := by
  unfold rdv
  rw [if_neg (by decide)]
  rfl
theorem Mf_A {M' : MM} {q : Nat} (h1 : 3 ≤ q) (h2 : q < 40) : Mfin M' q = M' q := if_pos ⟨h1, h2⟩
set_option maxRecDepth 100000 in
set_option maxHeartbeats 4000000 in
theorem ws_day40 {D : va_G} {H : Heap} (g : WG) (adr : Nat → Nat) (ids : List Nat) (M' : MM) (h : va_P D vwCl (dayW g (adr 8) (adr 40) (adr 41) (adr 42) (adr 43) (adr 44) (adr 45) (adr 46) (adr 47) (adr 48) (adr 49) (adr 50) (adr 51)) H) : va_P D vwCl (cw g adr ids (Mfin M') (idsD 40)) H := by
  have e0 : eE (mkg g adr ids) (Mfin M') 40 = .inr (0, [.ref (adr 41), .ref (adr 42), .ref (adr 43), .ref (adr 44), .ref (adr 8), .int 0, .int 0, .int 0, .int 0]) := by
    show Sum.inr (0, [Value.ref (adr 41), Value.ref (adr 42), Value.ref (adr 43), Value.ref (adr 44), ev (mkg g adr ids) (rdv 8), Value.int 0, Value.int 0, Value.int 0, Value.int 0]) = _
    rw [rdv_8]
    rfl
  simp only [dayW, vP_cons] at h
  obtain ⟨h11, h10, h9, h8, h7, h6, h5, h4, h3, h2, h1, h0, -⟩ := h
  simp only [cw, idsD, List.map_cons, List.map_nil, vP_cons]
  refine ⟨h11, h10, h9, h8, h7, h6, h5, h4, h3, at_row (fun i hi => ?_) h2, h1, ?_, vP_nil⟩
  · match i, hi with
    | 0, _ => rfl
    | 1, _ => rfl
    | 2, _ => rfl
    | 3, _ => rfl
    | 4, _ => rfl
    | 5, _ => rfl
    | 6, _ => rfl
  · rw [e0]
    exact h0
set_option maxRecDepth 100000 in
set_option maxHeartbeats 4000000 in
theorem ws_day52 {D : va_G} {H : Heap} (g : WG) (adr : Nat → Nat) (ids : List Nat) (M' : MM) (h : va_P D vwCl (dayW g (adr 8) (adr 52) (adr 53) (adr 54) (adr 55) (adr 56) (adr 57) (adr 58) (adr 59) (adr 60) (adr 61) (adr 62) (adr 63)) H) : va_P D vwCl (cw g adr ids (Mfin M') (idsD 52)) H := by
  have e0 : eE (mkg g adr ids) (Mfin M') 52 = .inr (0, [.ref (adr 53), .ref (adr 54), .ref (adr 55), .ref (adr 56), .ref (adr 8), .int 0, .int 0, .int 0, .int 0]) := by
    show Sum.inr (0, [Value.ref (adr 53), Value.ref (adr 54), Value.ref (adr 55), Value.ref (adr 56), ev (mkg g adr ids) (rdv 8), Value.int 0, Value.int 0, Value.int 0, Value.int 0]) = _
    rw [rdv_8]
    rfl
  simp only [dayW, vP_cons] at h
  obtain ⟨h11, h10, h9, h8, h7, h6, h5, h4, h3, h2, h1, h0, -⟩ := h
  simp only [cw, idsD, List.map_cons, List.map_nil, vP_cons]
  refine ⟨h11, h10, h9, h8, h7, h6, h5, h4, h3, at_row (fun i hi => ?_) h2, h1, ?_, vP_nil⟩
  · match i, hi with
    | 0, _ => rfl
    | 1, _ => rfl
    | 2, _ => rfl
    | 3, _ => rfl
    | 4, _ => rfl
    | 5, _ => rfl
    | 6, _ => rfl
  · rw [e0]
    exact h0
set_option maxRecDepth 100000 in
set_option maxHeartbeats 4000000 in
theorem ws_day64 {D : va_G} {H : Heap} (g : WG) (adr : Nat → Nat) (ids : List Nat) (M' : MM) (h : va_P D vwCl (dayW g (adr 8) (adr 64) (adr 65) (adr 66) (adr 67) (adr 68) (adr 69) (adr 70) (adr 71) (adr 72) (adr 73) (adr 74) (adr 75)) H) : va_P D vwCl (cw g adr ids (Mfin M') (idsD 64)) H := by
  have e0 : eE (mkg g adr ids) (Mfin M') 64 = .inr (0, [.ref (adr 65), .ref (adr 66), .ref (adr 67), .ref (adr 68), .ref (adr 8), .int 0, .int 0, .int 0, .int 0]) := by
    show Sum.inr (0, [Value.ref (adr 65), Value.ref (adr 66), Value.ref (adr 67), Value.ref (adr 68), ev (mkg g adr ids) (rdv 8), Value.int 0, Value.int 0, Value.int 0, Value.int 0]) = _
    rw [rdv_8]
    rfl
  simp only [dayW, vP_cons] at h
  obtain ⟨h11, h10, h9, h8, h7, h6, h5, h4, h3, h2, h1, h0, -⟩ := h
  simp only [cw, idsD, List.map_cons, List.map_nil, vP_cons]
  refine ⟨h11, h10, h9, h8, h7, h6, h5, h4, h3, at_row (fun i hi => ?_) h2, h1, ?_, vP_nil⟩
  · match i, hi with
    | 0, _ => rfl
    | 1, _ => rfl
    | 2, _ => rfl
    | 3, _ => rfl
    | 4, _ => rfl
    | 5, _ => rfl
    | 6, _ => rfl
  · rw [e0]
    exact h0
set_option maxRecDepth 100000 in
set_option maxHeartbeats 4000000 in
theorem ws_fr {D : va_G} {H : Heap} (g : WG) (adr adr2 : Nat → Nat) (ids : List Nat) (M' : MM) (ha : ∀ q, q < 40 → adr q = adr2 q) (h : va_P D vwCl (frA g adr [.ref (adr 1), .ref (adr 2), .ref (adr 3), .ref (adr2 40), .ref (adr2 52), .ref (adr2 64), .int 1, .int 0]) H) : va_P D vwCl (cw g adr2 ids (Mfin M') [2, 1, 0]) H := by
  simp only [frA, vP_cons] at h
  obtain ⟨h2, h1, h0, -⟩ := h
  rw [ha 0 (by decide), ha 1 (by decide), ha 2 (by decide), ha 3 (by decide)] at h0
  rw [ha 1 (by decide)] at h1
  rw [ha 2 (by decide)] at h2
  simp only [cw, List.map_cons, List.map_nil, vP_cons]
  refine ⟨at_row (fun i hi => ?_) h2, at_row (fun i hi => ?_) h1, h0, vP_nil⟩
  · have hi : i < 4 := hi
    show some (adr (32 + 2 * i)) = some (gad (mkg g adr2 ids) (2 + (30 + 2 * i)))
    rw [mkg_ad (by omega), ha _ (by omega)]
    congr 2
    omega
  · have hi : i < 6 := hi
    show some (adr (8 + 4 * i)) = some (gad (mkg g adr2 ids) (1 + (7 + 4 * i)))
    rw [mkg_ad (by omega), ha _ (by omega)]
    congr 2
    omega
theorem A_rfo : ∀ q, q < 40 → ∀ j, j < 47 → 3 ≤ q → sty (kd q) j = 1 → q + rfo (kd q) j < 40 := by decide +kernel
theorem A_kd : ∀ q, q < 40 → 3 ≤ q → kd q < 9 ∧ ¬ kd q = 0 := by decide +kernel
theorem A_in : ∀ q ∈ idsA, 3 ≤ q ∧ q < 40 := by decide
theorem sty_2 {k j : Nat} (h : sty k j = 2) : k = 0 ∧ j = 4 := by
  unfold sty at h
  split at h
  · split at h
    · omega
    · next c => split at h <;> omega
  · split at h <;> omega
  · split at h <;> omega
  · split at h
    · omega
    · split at h <;> omega
  · split at h <;> omega
  · split at h <;> omega
  · omega
theorem ws_keep {D : va_G} {H : Heap} (g : WG) (adr adr2 : Nat → Nat) (ids : List Nat) (M' : MM) (ha : ∀ q, q < 40 → adr q = adr2 q) (h : va_P D vwCl (wsM (mkg g adr idsA) M') H) : va_P D vwCl (cw g adr2 ids (Mfin M') idsA) H := by
  refine vP_iff.mpr fun x hx => ?_
  obtain ⟨q, hq, rfl⟩ := List.mem_map.mp hx
  obtain ⟨q1, q2⟩ := A_in q hq
  have hh := vP_iff.mp h (gad (mkg g adr idsA) q, eE (mkg g adr idsA) M' q) (List.mem_map.mpr ⟨q, hq, rfl⟩)
  have ga : ∀ r, r < 40 → gad (mkg g adr idsA) r = gad (mkg g adr2 ids) r := fun r hr => by rw [mkg_ad (by omega), mkg_ad (by omega)]; exact ha r hr
  exact at_congr (g := mkg g adr idsA) (g' := mkg g adr2 ids) (fun _ => rfl) rfl rfl (ga q q2) (Mf_A q1 q2).symm (fun j hj hs => ga _ (A_rfo q q2 j hj q1 hs)) (fun h9 => absurd h9 (by have := (A_kd q q2 q1).1; omega)) (fun j hs => absurd (sty_2 hs).1 (A_kd q q2 q1).2) hh
/-! the start's state -/
def D0 : DV := fun f i => if f = 7 ∧ i = 2 then nI 8 else 0
def st0 : ST := (D0, 1, X0, 0, fun _ => 0, fun _ => -1, fun _ => 0, fun _ _ => 0, none)
theorem D0_n : dn D0 = 0 := rfl
theorem SOK0 : SOK st0 := ⟨⟨rfl, Nat.zero_le _, fun s hs => absurd hs (Nat.not_lt_zero s), ⟨0, by decide, rfl⟩, by decide⟩, Nat.zero_le _, Nat.le_refl _, ⟨0, by decide, rfl⟩, Nat.zero_le _, fun _ _ => Or.inl rfl, fun _ _ => ⟨0, by decide, rfl⟩, fun E h => by cases h⟩
def okC (M : MM) : Prop := RC M st0 ∧ M 40 4 = 8 ∧ M 52 4 = 8 ∧ M 64 4 = 8
theorem okC_of {M' : MM} (hsm : Sm (YRd 8) (Mt 45) M') (h34 : M' 3 4 = 0) (htx : txOK M' 8) (hxc : ∀ t, t < 3 → xc M' 8 t = X0 8 t) : okC (Mfin M') := by
  have f : ∀ q j, 3 ≤ q → q < 40 → Mfin M' q j = M' q j := fun q j h1 h2 => by rw [Mf_A h1 h2]
  have n : ∀ q j, ¬ YRd 8 q j → 3 ≤ q → q < 40 → Mfin M' q j = Mt 45 q j := fun q j h h1 h2 => (f q j h1 h2).trans (hsm q j h)
  have z : ∀ q j, 40 < q → q < 52 → Mfin M' q j = 0 := fun q j h1 h2 => by unfold Mfin; rw [if_neg (by omega), if_neg (by omega), if_neg (by omega)]
  have x8 := xc_sm (Y := fun a _ => ¬ (a = 9 ∨ a = 10)) (M := M') (M' := Mfin M') (r := 8) (fun a b hab => f a b (by omega) (by omega)) (fun j => by omega) (fun j => by omega)
  have y : ∀ q j, q < 40 → 32 ≤ q → ¬ YRd 8 q j := fun q j h1 h2 h => by
    unfold YRd YT YP at h
    omega
  refine ⟨⟨?_, fun t ht => ?_, fun t ht k hk => ?_, rfl, fun t ht => ?_, ?_, fun j hj => absurd hj (Nat.not_lt_zero j), fun i hi => ?_, fun _ => rfl, fun E h => by cases h⟩, rfl, rfl, rfl⟩
  · funext a i
    show dv (Mfin M') 40 a i = D0 a i
    by_cases h0 : a = 0
    · subst h0
      show (if i < 16 then Mfin M' 41 i else 0) = if (0 : Nat) = 7 ∧ i = 2 then nI 8 else 0
      rw [if_neg (show ¬ ((0 : Nat) = 7 ∧ i = 2) from by omega)]
      split
      · exact z 41 i (by decide) (by decide)
      · rfl
    · by_cases h7 : a < 7
      · unfold dv D0
        rw [if_neg h0, if_pos h7, if_neg (show ¬ i < (Mfin M' 40 6).toNatClampNeg from Nat.not_lt_zero i), if_neg (by omega)]
      · by_cases h77 : a = 7
        · subst h77
          unfold D0
          match i with
          | 0 => rfl
          | 1 => rfl
          | 2 => rfl
          | i + 3 => simp [dv]
        · unfold dv D0
          rw [if_neg h0, if_neg h7, if_neg h77, if_neg (by omega)]
  · have ht : t < 1 := ht
    have : t = 0 := by omega
    subst this
    exact x8.2 htx
  · have ht : t < 1 := ht
    have : t = 0 := by omega
    subst this
    exact (congrFun x8.1 k).trans (hxc k hk)
  · rw [n _ _ (by unfold YRd YT YP; omega) (by omega) (by omega)]
    match t, ht with
    | 0, _ => rfl
    | 1, _ => rfl
    | 2, _ => rfl
    | 3, _ => rfl
    | 4, _ => rfl
    | 5, _ => rfl
  · exact (f 3 4 (by decide) (by decide)).trans h34
  · have hi : i < 4 := hi
    rw [n _ _ (y _ _ (by omega) (by omega)) (by omega) (by omega), n _ _ (y _ _ (by omega) (by omega)) (by omega) (by omega)]
    have hc : ∀ j, Mfin M' (33 + 2 * i) j = Mt 45 (33 + 2 * i) j := fun j => n _ _ (y _ _ (by omega) (by omega)) (by omega) (by omega)
    refine ⟨?_, ?_, fun j _ => (hc j).trans ?_⟩
    · match i, hi with
      | 0, _ => rfl
      | 1, _ => rfl
      | 2, _ => rfl
      | 3, _ => rfl
    · match i, hi with
      | 0, _ => rfl
      | 1, _ => rfl
      | 2, _ => rfl
      | 3, _ => rfl
    · match i, hi with
      | 0, _ => rfl
      | 1, _ => rfl
      | 2, _ => rfl
      | 3, _ => rfl
def K_X5 (g : WG) : KT := fun as ws Q => ∃ h, as = [.ref h] ∧ ws = [(h, .inr (5, [.null, .null, .null, .null, .null, .null, .int 0, .int 0]))] ∧ ∀ (adr : Nat → Nat) (M : MM), adr 0 = h → okC M → Q (wsM (mkg g adr idsC) M)
set_option maxRecDepth 100000 in
set_option maxHeartbeats 4000000 in
theorem k_X5 {l : Launch} {g : WG} : Ki l g yX5_init cX5_init 2 57 75 3089 (K_X5 g) := by
  refine Ki.of (by decide) rfl (fun as ws Q h => ?_) (fun p e s m args below meth c as ws Q A hX C hI hO hA hAg hAe => ?_)
  · obtain ⟨h, rfl, rfl, -⟩ := h; exact ⟨by simp, by simp [Value.category]⟩
  · obtain ⟨h, rfl, rfl, HQ⟩ := hX
    refine x5_a C hI hO hA hAg (fun adr h0 => ?_)
    subst h0
    refine c_iconst C 0 dX5_init_86 (by decide) ?_
    refine c_istore C 1 [(0, .ref (adr 0)), (1, .int (nI 0))] dX5_init_87 rfl (by decide) rfl ?_
    rw [← Mt_0]
    refine x5_b C hAg ?_ 45 0 rfl
    refine x5_c C hAg (fun M' hsm h34 htx hxc => ?_)
    refine x5_d (X := wsM (mkg g adr idsA) M') C hI hO hA hAg (t8 := adr 8) rfl (fun o1 a2 a3 a4 a5 a6 a7 a8 a9 a10 a11 a12 o13 a14 a15 a16 a17 a18 a19 a20 a21 a22 a23 a24 o25 a26 a27 a28 a29 a30 a31 a32 a33 a34 a35 a36 => ?_)
    generalize hadr : (fun q => if q < 40 then adr q else [o1, a2, a3, a4, a5, a6, a7, a8, a9, a10, a11, a12, o13, a14, a15, a16, a17, a18, a19, a20, a21, a22, a23, a24, o25, a26, a27, a28, a29, a30, a31, a32, a33, a34, a35, a36].getD (q - 40) 0) = adr2
    have e : ∀ q, adr2 q = if q < 40 then adr q else [o1, a2, a3, a4, a5, a6, a7, a8, a9, a10, a11, a12, o13, a14, a15, a16, a17, a18, a19, a20, a21, a22, a23, a24, o25, a26, a27, a28, a29, a30, a31, a32, a33, a34, a35, a36].getD (q - 40) 0 := fun q => by rw [← hadr]
    refine c_ws (wsM (mkg g adr2 idsC) (Mfin M')) (fun D H hP => ?_) (by subst hadr; rfl) (c_end C hAe dX5_init_187 (HQ adr2 (Mfin M') (by subst hadr; rfl) (okC_of hsm h34 htx hxc)))
    obtain ⟨p1, hP⟩ := vP_app.mp hP
    obtain ⟨p2, hP⟩ := vP_app.mp hP
    obtain ⟨p3, hP⟩ := vP_app.mp hP
    obtain ⟨p4, p5⟩ := vP_app.mp hP
    have h5 := ws_keep g adr adr2 idsC M' (fun q hq => by rw [e q, if_pos hq]) p5
    have h4 : va_P D vwCl (cw g adr2 idsC (Mfin M') [2, 1, 0]) H := ws_fr g adr adr2 idsC M' (fun q hq => by rw [e q, if_pos hq]) (by subst hadr; exact p4)
    have h3 : va_P D vwCl (cw g adr2 idsC (Mfin M') (idsD 40)) H := ws_day40 g adr2 idsC M' (by subst hadr; exact p3)
    have h2 : va_P D vwCl (cw g adr2 idsC (Mfin M') (idsD 52)) H := ws_day52 g adr2 idsC M' (by subst hadr; exact p2)
    have h1 : va_P D vwCl (cw g adr2 idsC (Mfin M') (idsD 64)) H := ws_day64 g adr2 idsC M' (by subst hadr; exact p1)
    have := vP_app.mpr ⟨h1, vP_app.mpr ⟨h2, vP_app.mpr ⟨h3, vP_app.mpr ⟨h4, h5⟩⟩⟩⟩
    simp only [cw, ← List.map_append] at this
    exact this
