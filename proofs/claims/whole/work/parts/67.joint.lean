/-! ===== the state that both sides mean ===== -/
/-! tokens rest on the bytes below the length -/
theorem rnE_c {P : Int32 → Bool} {B B' : Nat → Int32} : ∀ k p, (∀ j, j < p + k → B' j = B j) → rnE P B' k p = rnE P B k p
  | 0, _, _ => rfl
  | k + 1, p, h => by simp only [rnE]; rw [h p (by omega), rnE_c k (p + 1) (fun j hj => h j (by omega))]
theorem vlN_c {B B' : Nat → Int32} : ∀ k p a, (∀ j, j < p + k → B' j = B j) → vlN B' k p a = vlN B k p a
  | 0, _, _, _ => rfl
  | k + 1, p, a, h => by simp only [vlN]; rw [h p (by omega), vlN_c k (p + 1) _ (fun j hj => h j (by omega))]
theorem tkE_c {B B' : Nat → Int32} {n p : Nat} (h : ∀ j, j < n → B' j = B j) (hp : p < n) : tkE B' n p = tkE B n p := by
  unfold tkE
  rw [h p hp, rnE_c _ _ (fun j hj => h j (by omega)), rnE_c _ _ (fun j hj => h j (by omega))]
theorem skp_c {B B' : Nat → Int32} {n p : Nat} (h : ∀ j, j < n → B' j = B j) (hp : p ≤ n) : skp B' n p = skp B n p := rnE_c _ _ (fun j hj => h j (by omega))
theorem spB_c {B B' : Nat → Int32} {n p q i : Nat} (h : ∀ j, j < n → B' j = B j) (hp : p ≤ q) (hq : q ≤ n) : spB B' p q i = spB B p q i := by
  unfold spB
  by_cases c : q - p = lenS.getD i 0
  · rw [Bool.eq_iff_iff, Bool.and_eq_true, Bool.and_eq_true, List.all_eq_true, List.all_eq_true]
    have z : ∀ k ∈ List.range (lenS.getD i 0), B' (p + k) = B (p + k) := fun k hk => h _ (by have := List.mem_range.mp hk; omega)
    exact ⟨fun q => ⟨q.1, fun k hk => by rw [← z k hk]; exact q.2 k hk⟩, fun q => ⟨q.1, fun k hk => by rw [z k hk]; exact q.2 k hk⟩⟩
  · rw [decide_eq_false c, Bool.false_and, Bool.false_and]
theorem wfd_c {f f' : Nat → Bool} (h : ∀ w, f' w = f w) : ∀ k w, wfd f' k w = wfd f k w
  | 0, _ => rfl
  | k + 1, w => by simp only [wfd]; rw [h w, wfd_c h k]
theorem tk_c {B B' : Nat → Int32} {n p : Nat} (h : ∀ j, j < n → B' j = B j) (hp : p < n) : tkS B' n p = tkS B n p ∧ tkV B' n p = tkV B n p := by
  have e := tkE_c h hp
  have l := tkE_le (B := B) hp
  have w : wix B' p (tkE B n p) = wix B p (tkE B n p) := wfd_c (fun w => spB_c h (by omega) l.2) 12 0
  unfold tkS tkV
  rw [e, w, h p hp, vlN_c _ _ _ (fun j hj => h j (by have := Nat.min_le_left (tkE B n p) (p + 4); omega))]
  exact ⟨rfl, rfl⟩
theorem pl_c {B B' : Nat → Int32} {n : Nat} (h : ∀ j, j < n → B' j = B j) : ∀ k, pl B' n k = pl B n k
  | 0 => skp_c h (Nat.zero_le _)
  | k + 1 => by
    simp only [pl]
    rw [pl_c h k]
    split
    · next c => rw [tkE_c h c, skp_c h (tkE_le c).2]
    · rfl
theorem STR_c {B B' : Nat → Int32} {n m : Nat} {S V : SV} (h : ∀ j, j < n → B' j = B j) (hs : STR B n m S V) : STR B' n m S V := by
  obtain ⟨a, b, c, d, e⟩ := hs
  refine ⟨a, by rw [pl_c h]; exact b, c, d, fun k hk => ?_⟩
  obtain ⟨x, y, z⟩ := e k hk
  rw [pl_c h, (tk_c h x).1, (tk_c h x).2]
  exact ⟨x, y, z⟩
def ST : Type := (DV) × (Nat) × (XV) × (Nat) × (Nat → Int32) × (Nat → Int32) × (Nat → Int32) × (Nat → Nat → Int32) × (Option DV)
def ST.D (h : ST) : DV := h.1
def ST.T (h : ST) : Nat := h.2.1
def ST.X (h : ST) : XV := h.2.2.1
def ST.n (h : ST) : Nat := h.2.2.2.1
def ST.B (h : ST) : Nat → Int32 := h.2.2.2.2.1
def ST.srt (h : ST) : Nat → Int32 := h.2.2.2.2.2.1
def ST.siz (h : ST) : Nat → Int32 := h.2.2.2.2.2.2.1
def ST.cel (h : ST) : Nat → Nat → Int32 := h.2.2.2.2.2.2.2.1
def ST.im (h : ST) : Option DV := h.2.2.2.2.2.2.2.2
/-- what holds of every state -/
def SOK (s : ST) : Prop := (wfD s.D s.T) ∧ (dn s.D ≤ 6) ∧ (1 ≤ s.T) ∧ (isN (s.D 7 1) 1000) ∧ (s.n ≤ 160) ∧ (∀ i, i < 4 → s.srt i = -1 ∨ 0 ≤ s.srt i) ∧ (∀ i, i < 4 → ∃ n, n ≤ 40 ∧ s.siz i = nI n) ∧ (∀ E, s.im = some E → wfD E s.T ∧ dn E ≤ dn s.D ∧ isN (E 7 1) 1000)
theorem SOK.wf {s : ST} (h : SOK s) : wfD s.D s.T := h.1
theorem SOK.n6 {s : ST} (h : SOK s) : dn s.D ≤ 6 := h.2.1
theorem SOK.T1 {s : ST} (h : SOK s) : 1 ≤ s.T := h.2.2.1
theorem SOK.date {s : ST} (h : SOK s) : isN (s.D 7 1) 1000 := h.2.2.2.1
theorem SOK.tape {s : ST} (h : SOK s) : s.n ≤ 160 := h.2.2.2.2.1
theorem SOK.sort {s : ST} (h : SOK s) : ∀ i, i < 4 → s.srt i = -1 ∨ 0 ≤ s.srt i := h.2.2.2.2.2.1
theorem SOK.size {s : ST} (h : SOK s) : ∀ i, i < 4 → ∃ n, n ≤ 40 ∧ s.siz i = nI n := h.2.2.2.2.2.2.1
theorem SOK.img {s : ST} (h : SOK s) : ∀ E, s.im = some E → wfD E s.T ∧ dn E ≤ dn s.D ∧ isN (E 7 1) 1000 := h.2.2.2.2.2.2.2
/-- the class's memory means it -/
def RC (M : MM) (s : ST) : Prop := (dv M 40 = s.D) ∧ (∀ t, t < s.T → txOK M (8 + 4 * t)) ∧ (AG s.X (xc M) s.T) ∧ (M 0 6 = nI s.T) ∧ (∀ t, t < 6 → M (8 + 4 * t) 0 = nI t) ∧ (M 3 4 = nI s.n) ∧ (∀ j, j < s.n → M 4 j = s.B j) ∧ (∀ i, i < 4 → M (32 + 2 * i) 1 = s.srt i ∧ M (32 + 2 * i) 2 = s.siz i ∧ ∀ j, j < 40 → M (33 + 2 * i) j = s.cel i j) ∧ (s.im = none → M 0 7 = 0) ∧ (∀ E, s.im = some E → ¬ M 0 7 = 0 ∧ dv M 64 = E)
theorem RC.day {M : MM} {s : ST} (h : RC M s) : dv M 40 = s.D := h.1
theorem RC.txt {M : MM} {s : ST} (h : RC M s) : ∀ t, t < s.T → txOK M (8 + 4 * t) := h.2.1
theorem RC.ag {M : MM} {s : ST} (h : RC M s) : AG s.X (xc M) s.T := h.2.2.1
theorem RC.cnt {M : MM} {s : ST} (h : RC M s) : M 0 6 = nI s.T := h.2.2.2.1
theorem RC.num {M : MM} {s : ST} (h : RC M s) : ∀ t, t < 6 → M (8 + 4 * t) 0 = nI t := h.2.2.2.2.1
theorem RC.len {M : MM} {s : ST} (h : RC M s) : M 3 4 = nI s.n := h.2.2.2.2.2.1
theorem RC.tape {M : MM} {s : ST} (h : RC M s) : ∀ j, j < s.n → M 4 j = s.B j := h.2.2.2.2.2.2.1
theorem RC.sht {M : MM} {s : ST} (h : RC M s) : ∀ i, i < 4 → M (32 + 2 * i) 1 = s.srt i ∧ M (32 + 2 * i) 2 = s.siz i ∧ ∀ j, j < 40 → M (33 + 2 * i) j = s.cel i j := h.2.2.2.2.2.2.2.1
theorem RC.im0 {M : MM} {s : ST} (h : RC M s) : s.im = none → M 0 7 = 0 := h.2.2.2.2.2.2.2.2.1
theorem RC.im1 {M : MM} {s : ST} (h : RC M s) : ∀ E, s.im = some E → ¬ M 0 7 = 0 ∧ dv M 64 = E := h.2.2.2.2.2.2.2.2.2
/-- the model's memory means it -/
def RM (M : MM) (s : ST) : Prop := (dm M = s.D) ∧ (∃ t, t < s.T ∧ M 76 9 = nI t) ∧ (zM M) ∧ (∀ t, t < s.T → mtx M t) ∧ (AG s.X (xm M) s.T) ∧ (M 76 12 = nI s.T) ∧ (M 76 10 = nI s.n) ∧ (∀ j, j < s.n → M 84 j = s.B j) ∧ (∃ c, c ≤ 160 * s.T ∧ M 76 16 = nI c ∧ ∀ t, t < s.T → ∀ p, p < 3 → mb M t p + ml M t p ≤ c) ∧ (∀ i, i < 4 → M 99 i = s.srt i ∧ M 100 i = s.siz i ∧ ∀ j, j < 40 → M 101 (40 * i + j) = s.cel i j) ∧ (s.im = none → M 76 38 = 0) ∧ (∀ E, s.im = some E → ¬ M 76 38 = 0 ∧ idm M = E ∧ (∃ t, t < s.T ∧ M 76 41 = nI t) ∧ ∀ i, i < dn E → M 98 (24 + i) = 0 ∨ M 98 (24 + i) = 1)
theorem RM.day {M : MM} {s : ST} (h : RM M s) : dm M = s.D := h.1
theorem RM.rul {M : MM} {s : ST} (h : RM M s) : ∃ t, t < s.T ∧ M 76 9 = nI t := h.2.1
theorem RM.z {M : MM} {s : ST} (h : RM M s) : zM M := h.2.2.1
theorem RM.txt {M : MM} {s : ST} (h : RM M s) : ∀ t, t < s.T → mtx M t := h.2.2.2.1
theorem RM.ag {M : MM} {s : ST} (h : RM M s) : AG s.X (xm M) s.T := h.2.2.2.2.1
theorem RM.cnt {M : MM} {s : ST} (h : RM M s) : M 76 12 = nI s.T := h.2.2.2.2.2.1
theorem RM.len {M : MM} {s : ST} (h : RM M s) : M 76 10 = nI s.n := h.2.2.2.2.2.2.1
theorem RM.tape {M : MM} {s : ST} (h : RM M s) : ∀ j, j < s.n → M 84 j = s.B j := h.2.2.2.2.2.2.2.1
theorem RM.cod {M : MM} {s : ST} (h : RM M s) : ∃ c, c ≤ 160 * s.T ∧ M 76 16 = nI c ∧ ∀ t, t < s.T → ∀ p, p < 3 → mb M t p + ml M t p ≤ c := h.2.2.2.2.2.2.2.2.1
theorem RM.sht {M : MM} {s : ST} (h : RM M s) : ∀ i, i < 4 → M 99 i = s.srt i ∧ M 100 i = s.siz i ∧ ∀ j, j < 40 → M 101 (40 * i + j) = s.cel i j := h.2.2.2.2.2.2.2.2.2.1
theorem RM.im0 {M : MM} {s : ST} (h : RM M s) : s.im = none → M 76 38 = 0 := h.2.2.2.2.2.2.2.2.2.2.1
theorem RM.im1 {M : MM} {s : ST} (h : RM M s) : ∀ E, s.im = some E → ¬ M 76 38 = 0 ∧ idm M = E ∧ (∃ t, t < s.T ∧ M 76 41 = nI t) ∧ ∀ i, i < dn E → M 98 (24 + i) = 0 ∨ M 98 (24 + i) = 1 := h.2.2.2.2.2.2.2.2.2.2.2
theorem RC.ok {M : MM} {s : ST} (h : RC M s) (k : SOK s) : okD M 40 := ⟨D40, s.T, by rw [h.day]; exact k.wf, h.txt⟩
theorem RC.eq {M : MM} {s : ST} (h : RC M s) (k : SOK s) : EQ s.X (xc M) s.D := h.ag.eq k.wf
theorem RM.ok {M : MM} {s : ST} (h : RM M s) (k : SOK s) : okM M := ⟨s.T, by rw [h.day]; exact k.wf, h.txt, h.rul⟩
theorem RM.eq {M : MM} {s : ST} (h : RM M s) (k : SOK s) : EQ s.X (xm M) s.D := h.ag.eq k.wf
/-- the two lie apart -/
def LO (M M' : MM) : Prop := ∀ a, 76 ≤ a → M' a = M a
def HI (M M' : MM) : Prop := ∀ a, a < 76 → M' a = M a
theorem RC.hi {M M' : MM} {s : ST} (h : RC M s) (k : SOK s) (e : HI M M') : RC M' s := by
  have hT := k.wf.2.2.2.2
  have d : ∀ q, q + 12 ≤ 76 → dn (dv M q) ≤ 7 → dv M' q = dv M q := fun q hq hn => dv_sm (Y := fun a _ => 76 ≤ a) (fun a b hab => by rw [e a (by omega)]) (fun j => by omega) (fun j _ => by omega) (fun s j hs => by omega) hn
  have x : ∀ t, t < 6 → xc M' (8 + 4 * t) = xc M (8 + 4 * t) ∧ (txOK M (8 + 4 * t) → txOK M' (8 + 4 * t)) := fun t ht => xc_sm (Y := fun a _ => 76 ≤ a) (fun a b hab => by rw [e a (by omega)]) (fun j => by omega) (fun j => by omega)
  refine ⟨(d 40 (by omega) (by rw [h.day]; exact k.wf.2.1)).trans h.day, fun t ht => (x t (by omega)).2 (h.txt t ht), fun t ht p hp => ?_, by rw [e 0 (by omega)]; exact h.cnt, fun t ht => by rw [e _ (by omega)]; exact h.num t ht, by rw [e 3 (by omega)]; exact h.len, by rw [e 4 (by omega)]; exact h.tape, fun i hi => ?_, fun q => by rw [e 0 (by omega)]; exact h.im0 q, fun E q => ?_⟩
  · rw [(x t (by omega)).1]; exact h.ag t ht p hp
  · rw [e _ (by omega), e _ (by omega)]; exact h.sht i hi
  · obtain ⟨a, b⟩ := h.im1 E q
    rw [e 0 (by omega)]
    exact ⟨a, (d 64 (by omega) (by rw [b]; exact (k.img E q).1.2.1)).trans b⟩
theorem RM.lo {M M' : MM} {s : ST} (h : RM M s) (e : LO M M') : RM M' s := by
  have ed : dm M' = dm M := by
    funext f i
    simp only [dm, e 76 (by omega), e 77 (by omega)]
    by_cases h0 : f = 0
    · simp [h0]
    · by_cases h7 : f < 7
      · simp only [h0, h7, if_true, if_false, e (77 + f) (by omega)]
      · simp only [h0, h7, if_false]
  have ei : idm M' = idm M := by
    funext f i
    simp only [idm, e 76 (by omega), e 97 (by omega), e 98 (by omega), e 78 (by omega)]
  have ex : xm M' = xm M := by
    funext r p
    simp only [xm, mseg, mb, ml, e 85 (by omega), e 86 (by omega), e 87 (by omega)]
  have et : ∀ t, mtx M t → mtx M' t := fun t ht => by
    simp only [mtx, mseg, mb, ml, e 85 (by omega), e 86 (by omega), e 87 (by omega)] at ht ⊢
    exact ht
  refine ⟨ed.trans h.day, by rw [e 76 (by omega)]; exact h.rul, fun s' hs' => by rw [e 83 (by omega)]; exact h.z s' hs', fun t ht => et t (h.txt t ht), by rw [ex]; exact h.ag, by rw [e 76 (by omega)]; exact h.cnt, by rw [e 76 (by omega)]; exact h.len, by rw [e 84 (by omega)]; exact h.tape, ?_, fun i hi => by rw [e 99 (by omega), e 100 (by omega), e 101 (by omega)]; exact h.sht i hi, fun q => by rw [e 76 (by omega)]; exact h.im0 q, fun E q => ?_⟩
  · obtain ⟨c, a, b, d⟩ := h.cod
    refine ⟨c, a, by rw [e 76 (by omega)]; exact b, fun t ht p hp => ?_⟩
    simp only [mb, ml, e 85 (by omega), e 86 (by omega)]
    exact d t ht p hp
  · rw [e 76 (by omega), e 98 (by omega), ei]; exact h.im1 E q
theorem Sm.LO {Y : Nat → Nat → Prop} {M M' : MM} (h : Sm Y M M') (y : ∀ a b, Y a b → a < 76) : LO M M' := fun a ha => funext fun b => h a b fun q => by have := y a b q; omega
theorem Sm.HI {Y : Nat → Nat → Prop} {M M' : MM} (h : Sm Y M M') (y : ∀ a b, Y a b → 76 ≤ a) : HI M M' := fun a ha => funext fun b => h a b fun q => by have := y a b q; omega
/-- what a question of the class may write -/
theorem RC.q {Y : Nat → Nat → Prop} {M M' : MM} {s : ST} (h : RC M s) (k : SOK s) (hs : Sm Y M M') (y : ∀ a b, Y a b → YC a b) : RC M' s := by
  have hs := hs.mono y
  have hT := k.wf.2.2.2.2
  have n : ∀ a b, ¬ (40 ≤ a ∧ a < 64) → ¬ (8 ≤ a ∧ a < 32 ∧ a % 4 = 3) → M' a b = M a b := fun a b h1 h2 => hs a b (YC_no ⟨h1, h2⟩)
  refine ⟨(dv_C hs (by rw [h.day]; exact k.wf.2.1)).trans h.day, fun t ht => (xc_C hs (by omega)).2 (h.txt t ht), fun t ht p hp => ?_, by rw [n _ _ (by omega) (by omega)]; exact h.cnt, fun t ht => by rw [n _ _ (by omega) (by omega)]; exact h.num t ht, by rw [n _ _ (by omega) (by omega)]; exact h.len, ?_, fun i hi => ?_, fun q => by rw [n _ _ (by omega) (by omega)]; exact h.im0 q, fun E q => ?_⟩
  · rw [(xc_C hs (by omega)).1]; exact h.ag t ht p hp
  · exact fun j hj => (n _ _ (by omega) (by omega)).trans (h.tape j hj)
  · obtain ⟨a, b, c⟩ := h.sht i hi
    exact ⟨by rw [n _ _ (by omega) (by omega)]; exact a, by rw [n _ _ (by omega) (by omega)]; exact b, fun j hj => by rw [n _ _ (by omega) (by omega)]; exact c j hj⟩
  · obtain ⟨a, b⟩ := h.im1 E q
    refine ⟨by rw [n _ _ (by omega) (by omega)]; exact a, ?_⟩
    rw [← b]
    exact dv_sm (Y := YC) hs (fun j => YC_no (by omega)) (fun j _ => YC_no (by omega)) (fun s j hs => YC_no (by omega)) (by rw [b]; exact (k.img E q).1.2.1)
theorem YC_lo : ∀ a b, YC a b → a < 76 := fun a b q => by unfold YC XD XP isPile at q; omega

