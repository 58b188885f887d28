/-! ===== the tape, the sheets, the texts ===== -/
def ST.toN (s : ST) (n : Nat) (B : Nat → Int32) : ST := (s.D, s.T, s.X, n, B, s.srt, s.siz, s.cel, s.im)
def ST.toS (s : ST) (srt siz : Nat → Int32) (cel : Nat → Nat → Int32) : ST := (s.D, s.T, s.X, s.n, s.B, srt, siz, cel, s.im)
def YLo (s : ST) (a b : Nat) : Prop := YC a b ∨ (a = 0 ∧ b = 6) ∨ (3 ≤ a ∧ a < 8) ∨ (32 ≤ a ∧ a < 40) ∨ (8 + 4 * s.T ≤ a ∧ a < 32 ∧ (¬ a % 4 = 0 ∨ ¬ b = 0))
theorem RC.low2 {Y : Nat → Nat → Prop} {M M' : MM} {s : ST} (s' : ST) (h : RC M s) (k : SOK s) (hs : Sm Y M M') (y : ∀ a b, Y a b → YLo s a b) (eD : s'.D = s.D) (eX : ∀ t, t < s.T → ∀ p, p < 3 → s'.X (8 + 4 * t) p = s.X (8 + 4 * t) p) (nw : ∀ t, s.T ≤ t → t < s'.T → txOK M' (8 + 4 * t) ∧ ∀ p, p < 3 → xc M' (8 + 4 * t) p = s'.X (8 + 4 * t) p) (eI : s'.im = s.im) (cnt : M' 0 6 = nI s'.T) (len : M' 3 4 = nI s'.n) (tape : ∀ j, j < s'.n → M' 4 j = s'.B j) (sht : ∀ i, i < 4 → M' (32 + 2 * i) 1 = s'.srt i ∧ M' (32 + 2 * i) 2 = s'.siz i ∧ ∀ j, j < 40 → M' (33 + 2 * i) j = s'.cel i j) : RC M' s' := by
  have hs := hs.mono y
  have hT := k.wf.2.2.2.2
  have x : ∀ t, t < s.T → xc M' (8 + 4 * t) = xc M (8 + 4 * t) ∧ (txOK M (8 + 4 * t) → txOK M' (8 + 4 * t)) := fun t ht => xc_sm hs (fun j => by unfold YLo YC XD XP isPile; omega) (fun j => by unfold YLo YC XD XP isPile; omega)
  have d : dv M' 40 = dv M 40 := dv_sm hs (fun j => by unfold YLo YC XD XP isPile; omega) (fun j hj => by unfold YLo YC XD XP isPile; omega) (fun s j hs => by unfold YLo YC XD XP isPile; omega) (by rw [h.day]; exact k.wf.2.1)
  refine ⟨by rw [eD, ← h.day]; exact d, fun t ht => ?_, fun t ht p hp => ?_, cnt, fun t ht => by rw [hs _ _ (by unfold YLo YC XD XP isPile; omega)]; exact h.num t ht, len, tape, sht, fun q => by rw [hs _ _ (by unfold YLo YC XD XP isPile; omega)]; exact h.im0 (by rw [← eI]; exact q), fun E q => ?_⟩
  · rcases Nat.lt_or_ge t s.T with w | w
    · exact (x t w).2 (h.txt t w)
    · exact (nw t w ht).1
  · rcases Nat.lt_or_ge t s.T with w | w
    · rw [eX t w p hp, (x t w).1]; exact h.ag t w p hp
    · exact (nw t w ht).2 p hp
  · rw [eI] at q
    obtain ⟨a, b⟩ := h.im1 E q
    refine ⟨by rw [hs _ _ (by unfold YLo YC XD XP isPile; omega)]; exact a, ?_⟩
    have hE : dn (dv M 64) ≤ 7 := by rw [b]; exact (k.img E q).1.2.1
    rw [← b]
    exact dv_sm hs (fun j => by unfold YLo YC XD XP isPile; omega) (fun j _ => by unfold YLo YC XD XP isPile; omega) (fun s j hs => by unfold YLo YC XD XP isPile; omega) hE
theorem RC.low {Y : Nat → Nat → Prop} {M M' : MM} {s : ST} (s' : ST) (h : RC M s) (k : SOK s) (hs : Sm Y M M') (y : ∀ a b, Y a b → YLo s a b ∧ ¬ (a = 0 ∧ b = 6)) (eD : s'.D = s.D) (eT : s'.T = s.T) (eX : s'.X = s.X) (eI : s'.im = s.im) (len : M' 3 4 = nI s'.n) (tape : ∀ j, j < s'.n → M' 4 j = s'.B j) (sht : ∀ i, i < 4 → M' (32 + 2 * i) 1 = s'.srt i ∧ M' (32 + 2 * i) 2 = s'.siz i ∧ ∀ j, j < 40 → M' (33 + 2 * i) j = s'.cel i j) : RC M' s' :=
  h.low2 s' k hs (fun a b q => (y a b q).1) eD (fun t _ p _ => by rw [eX]) (fun t h1 h2 => by rw [eT] at h2; omega) eI (by rw [eT, hs _ _ (fun q => (y _ _ q).2 ⟨rfl, rfl⟩)]; exact h.cnt) len tape sht
theorem seg_c {f f' : Nat → Int32} : ∀ n i, (∀ j, j < n → f' (i + j) = f (i + j)) → seg f' i n = seg f i n
  | 0, _, _ => rfl
  | n + 1, i, h => by
    simp only [seg]
    rw [seg_c (f := f) (f' := f') n (i + 1) (fun j hj => by rw [show i + 1 + j = i + (j + 1) by omega]; exact h _ (by omega)), show f' i = f i from h 0 (by omega)]
/-- a text of the model stays -/
theorem mtx_k {M M' : MM} {t c : Nat} (h : mtx M t) (hc : ∀ p, p < 3 → mb M t p + ml M t p ≤ c) (e85 : ∀ p, p < 3 → M' 85 (3 * t + p) = M 85 (3 * t + p)) (e86 : ∀ p, p < 3 → M' 86 (3 * t + p) = M 86 (3 * t + p)) (e87 : ∀ j, j < c → M' 87 j = M 87 j) : mtx M' t ∧ ∀ p, p < 3 → mseg M' t p = mseg M t p ∧ mb M' t p = mb M t p ∧ ml M' t p = ml M t p := by
  have key : ∀ p, p < 3 → mseg M' t p = mseg M t p ∧ mb M' t p = mb M t p ∧ ml M' t p = ml M t p := by
    intro p hp
    have b : mb M' t p = mb M t p := by unfold mb; rw [e85 p hp]
    have l : ml M' t p = ml M t p := by unfold ml; rw [e86 p hp]
    refine ⟨?_, b, l⟩
    unfold mseg
    rw [b, l, seg_c _ _ (fun j hj => e87 _ (by have := hc p hp; omega))]
  refine ⟨fun p hp => ?_, key⟩
  obtain ⟨a1, a2, a3, a4, a5, a6⟩ := h p hp
  obtain ⟨k1, k2, k3⟩ := key p hp
  rw [k1, k2, k3, e85 p hp, e86 p hp]
  exact ⟨a1, a2, a3, a4, a5, fun j hj => by rw [e87 _ (by have := hc p hp; omega)]; exact a6 j hj⟩
theorem dm_F {M M' : MM} (h77 : ∀ j, M' 77 j = M 77 j) (h76 : ∀ j, j = 0 ∨ j = 2 ∨ j = 9 → M' 76 j = M 76 j) (hf : ∀ f i, 0 < f → f < 7 → i < dn (dm M) → M' (77 + f) i = M (77 + f) i) : dm M' = dm M := by
  funext f i
  rw [dm_n] at hf
  simp only [dm, h76 0 (by omega), h76 2 (by omega), h76 9 (by omega)]
  by_cases h0 : f = 0
  · simp only [h0, if_true, h77 i]
  · by_cases h7 : f < 7
    · simp only [h0, h7, if_true, if_false]
      split
      · next hi => exact hf f i (by omega) h7 hi
      · rfl
    · simp only [h0, h7, if_false]
def YHi (s : ST) (c a b : Nat) : Prop := YZ (dn s.D) a b ∨ a = 84 ∨ (a = 76 ∧ (b = 10 ∨ b = 12 ∨ (16 ≤ b ∧ b ≤ 27))) ∨ (99 ≤ a ∧ a ≤ 101) ∨ a = 88 ∨ ((a = 85 ∨ a = 86) ∧ 3 * s.T ≤ b) ∨ (a = 87 ∧ c ≤ b)
theorem xm_t (M : MM) (t p : Nat) : xm M (8 + 4 * t) p = mseg M t p := by show mseg M ((8 + 4 * t - 8) / 4) p = _; rw [show (8 + 4 * t - 8) / 4 = t by omega]
theorem RM.low2 {Y : Nat → Nat → Prop} {M M' : MM} {s : ST} {c c' : Nat} (s' : ST) (h : RM M s) (k : SOK s) (hs : Sm Y M M') (hc2 : ∀ t, t < s.T → ∀ p, p < 3 → mb M t p + ml M t p ≤ c) (y : ∀ a b, Y a b → YHi s c a b) (hz : zM M') (eD : s'.D = s.D) (eT : s.T ≤ s'.T) (eX : ∀ t, t < s.T → ∀ p, p < 3 → s'.X (8 + 4 * t) p = s.X (8 + 4 * t) p) (nw : ∀ t, s.T ≤ t → t < s'.T → mtx M' t ∧ ∀ p, p < 3 → mseg M' t p = s'.X (8 + 4 * t) p ∧ mb M' t p + ml M' t p ≤ c') (hcc : c ≤ c') (hc5 : c' ≤ 160 * s'.T) (hc6 : M' 76 16 = nI c') (eI : s'.im = s.im) (cnt : M' 76 12 = nI s'.T) (len : M' 76 10 = nI s'.n) (tape : ∀ j, j < s'.n → M' 84 j = s'.B j) (sht : ∀ i, i < 4 → M' 99 i = s'.srt i ∧ M' 100 i = s'.siz i ∧ ∀ j, j < 40 → M' 101 (40 * i + j) = s'.cel i j) : RM M' s' := by
  have hs := hs.mono y
  have n6 := k.n6
  have hd : dm M' = dm M := dm_F (fun j => hs _ _ (by unfold YHi YZ; omega)) (fun j hj => hs _ _ (by unfold YHi YZ; omega)) (fun f i h0 h7 hi => hs _ _ (by rw [h.day] at hi; unfold YHi YZ; omega))
  have n : ∀ b, ¬ (b = 32 ∨ b = 36 ∨ b = 10 ∨ b = 12 ∨ (16 ≤ b ∧ b ≤ 27)) → M' 76 b = M 76 b := fun b hb => hs _ _ (by unfold YHi YZ; omega)
  have tx : ∀ t, t < s.T → mtx M' t ∧ ∀ p, p < 3 → mseg M' t p = mseg M t p ∧ mb M' t p = mb M t p ∧ ml M' t p = ml M t p := fun t ht => mtx_k (h.txt t ht) (hc2 t ht) (fun p hp => hs _ _ (by unfold YHi YZ; omega)) (fun p hp => hs _ _ (by unfold YHi YZ; omega)) (fun j hj => hs _ _ (by unfold YHi YZ; omega))
  refine ⟨by rw [eD, ← h.day]; exact hd, ?_, hz, fun t ht => ?_, fun t ht p hp => ?_, cnt, len, tape, ⟨c', hc5, hc6, fun t ht p hp => ?_⟩, sht, fun q => by rw [n 38 (by decide)]; exact h.im0 (by rw [← eI]; exact q), fun E q => ?_⟩
  · obtain ⟨t, ht, e⟩ := h.rul
    exact ⟨t, by omega, by rw [n 9 (by decide)]; exact e⟩
  · rcases Nat.lt_or_ge t s.T with w | w
    · exact (tx t w).1
    · exact (nw t w ht).1
  · rw [xm_t]
    rcases Nat.lt_or_ge t s.T with w | w
    · rw [((tx t w).2 p hp).1, eX t w p hp, ← xm_t]; exact h.ag t w p hp
    · exact ((nw t w ht).2 p hp).1
  · rcases Nat.lt_or_ge t s.T with w | w
    · rw [((tx t w).2 p hp).2.1, ((tx t w).2 p hp).2.2]
      exact Nat.le_trans (hc2 t w p hp) hcc
    · exact ((nw t w ht).2 p hp).2
  · rw [eI] at q
    obtain ⟨a, b, ⟨t, c1, c2⟩, d⟩ := h.im1 E q
    have hE := (k.img E q).2.1
    refine ⟨by rw [n 38 (by decide)]; exact a, idm_e b (fun j hj => n j (by omega)) (funext fun j => hs _ _ (by unfold YHi YZ; omega)) (funext fun j => hs _ _ (by unfold YHi YZ; omega)) (fun i hi => hs _ _ (by unfold YHi YZ; omega)), ⟨t, by omega, by rw [n 41 (by decide)]; exact c2⟩, fun i hi => by rw [hs 98 _ (by unfold YHi YZ; omega)]; exact d i hi⟩
theorem RM.low {Y : Nat → Nat → Prop} {M M' : MM} {s : ST} {c : Nat} (s' : ST) (h : RM M s) (k : SOK s) (hs : Sm Y M M') (hc : M 76 16 = nI c) (hc2 : ∀ t, t < s.T → ∀ p, p < 3 → mb M t p + ml M t p ≤ c) (hc3 : c ≤ 160 * s.T) (hc4 : M' 76 16 = M 76 16) (hc12 : M' 76 12 = M 76 12) (y : ∀ a b, Y a b → YHi s c a b) (hz : zM M') (eD : s'.D = s.D) (eT : s'.T = s.T) (eX : s'.X = s.X) (eI : s'.im = s.im) (len : M' 76 10 = nI s'.n) (tape : ∀ j, j < s'.n → M' 84 j = s'.B j) (sht : ∀ i, i < 4 → M' 99 i = s'.srt i ∧ M' 100 i = s'.siz i ∧ ∀ j, j < 40 → M' 101 (40 * i + j) = s'.cel i j) : RM M' s' :=
  h.low2 (c := c) (c' := c) s' k hs hc2 y hz eD (by rw [eT]; exact Nat.le_refl _) (fun t _ p _ => by rw [eX]) (fun t h1 h2 => by rw [eT] at h2; omega) (Nat.le_refl _) (by rw [eT]; exact hc3) (hc4.trans hc) eI (by rw [eT, hc12]; exact h.cnt) len tape sht

/-! feed -/
def adB (B : Nat → Int32) (n : Nat) (x : Int32) : Nat → Int32 := fun j => if j = n then x else B j
theorem SOK.toN {s : ST} (k : SOK s) {n : Nat} (hn : n ≤ 160) (B : Nat → Int32) : SOK (s.toN n B) := ⟨k.wf, k.n6, k.T1, k.date, hn, k.sort, k.size, k.img⟩
theorem jC_feed {g : WG} {M : MM} {s : ST} {x : Int32} {Q : Option Value → MM → Prop} (h : RC M s) (k : SOK s) (q1 : ¬ (0 ≤ x ∧ x ≤ 255) → Q (some (.int (-2))) M) (q2 : (0 ≤ x ∧ x ≤ 255) → s.n = 160 → Q (some (.int (-4))) M) (q3 : (0 ≤ x ∧ x ≤ 255) → s.n < 160 → ∀ M', LO M M' → RC M' (s.toN (s.n + 1) (adB s.B s.n x)) → Q (some (.int (nI (s.n + 1)))) M') : T_X5_feed g [.ref 0, .int x] M Q := by
  refine ⟨x, s.n, rfl, h.len, k.tape, q1, q2, fun a b => q3 a b _ ?_ ?_⟩
  · intro a ha
    exact funext fun j => by rw [ms_q (by omega), ms_q (by omega)]
  · have hs : Sm (fun a b => a = 4 ∨ (a = 3 ∧ b = 4)) M (mset (mset M 4 s.n x) 3 4 (nI (s.n + 1))) := (Sm.rf.set _ (Or.inl rfl)).set _ (Or.inr ⟨rfl, rfl⟩)
    refine h.low _ k hs (fun a b q => by unfold YLo; omega) rfl rfl rfl rfl (ms_s _ _ _ _) ?_ (fun i hi => ?_)
    · intro j hj
      have hj : j < s.n + 1 := hj
      rw [ms_q (by decide)]
      show mset M 4 s.n x 4 j = if j = s.n then x else s.B j
      by_cases c : j = s.n
      · rw [c, ms_s, if_pos rfl]
      · rw [ms_j c, if_neg c]; exact h.tape j (by omega)
    · obtain ⟨a, b, c⟩ := h.sht i hi
      exact ⟨by rw [hs _ _ (by omega)]; exact a, by rw [hs _ _ (by omega)]; exact b, fun j hj => by rw [hs _ _ (by omega)]; exact c j hj⟩
theorem jM_feed {g : WG} {M : MM} {s : ST} {x : Int32} {Q : Option Value → MM → Prop} (h : RM M s) (k : SOK s) (q1 : ¬ (0 ≤ x ∧ x ≤ 255) → Q (some (.int (-2))) M) (q2 : (0 ≤ x ∧ x ≤ 255) → s.n = 160 → Q (some (.int (-4))) M) (q3 : (0 ≤ x ∧ x ≤ 255) → s.n < 160 → ∀ M', HI M M' → RM M' (s.toN (s.n + 1) (adB s.B s.n x)) → Q (some (.int (nI (s.n + 1)))) M') : T_X6_feed g [.ref 76, .int x] M Q := by
  refine ⟨x, s.n, rfl, h.len, k.tape, q1, q2, fun a b => q3 a b _ ?_ ?_⟩
  · intro a ha
    exact funext fun j => by rw [ms_q (by omega), ms_q (by omega)]
  · obtain ⟨c, c1, c2, c3⟩ := h.cod
    have hs : Sm (fun a b => a = 84 ∨ (a = 76 ∧ b = 10)) M (mset (mset M 76 10 (nI (s.n + 1))) 84 s.n x) := (Sm.rf.set _ (Or.inr ⟨rfl, rfl⟩)).set _ (Or.inl rfl)
    refine h.low _ k hs c2 c3 c1 (hs _ _ (by omega)) (hs _ _ (by omega)) (fun a b q => by unfold YHi; omega) (zM_L hs (fun b => by omega) h.z) rfl rfl rfl rfl ?_ ?_ (fun i hi => ?_)
    · rw [ms_q (by decide), ms_s]; rfl
    · intro j hj
      have hj : j < s.n + 1 := hj
      show _ = if j = s.n then x else s.B j
      by_cases c : j = s.n
      · rw [c, ms_s, if_pos rfl]
      · rw [ms_j c, if_neg c, ms_q (by decide)]; exact h.tape j (by omega)
    · obtain ⟨a, b, c⟩ := h.sht i hi
      exact ⟨by rw [hs _ _ (by omega)]; exact a, by rw [hs _ _ (by omega)]; exact b, fun j hj => by rw [hs _ _ (by omega)]; exact c j hj⟩

/-! text -/
def ST.toT (s : ST) (cs : Nat → List Int32) : ST := (s.D, s.T + 1, fun r p => if r = 8 + 4 * s.T then (cs p).map tr else s.X r p, 0, s.B, s.srt, s.siz, s.cel, s.im)
theorem wfD_T {D : DV} {T T' : Nat} (h : wfD D T) (h1 : T ≤ T') (h2 : T' ≤ 6) : wfD D T' := by
  obtain ⟨a, b, c, ⟨t, d, e⟩, f⟩ := h
  exact ⟨a, b, c, ⟨t, by omega, e⟩, h2⟩
theorem SOK.toT {s : ST} (k : SOK s) (h5 : s.T < 6) (cs : Nat → List Int32) : SOK (s.toT cs) :=
  ⟨wfD_T k.wf (Nat.le_succ _) h5, k.n6, Nat.le_succ_of_le k.T1, k.date, Nat.zero_le _, k.sort, k.size, fun E q => ⟨wfD_T (k.img E q).1 (Nat.le_succ _) h5, (k.img E q).2⟩⟩
/-- what comes of a tape -/
def RDF (s : ST) (m : Nat) (S V : SV) (k : Nat) : Prop := STR s.B s.n m S V ∧ k ≤ m ∧ FlS S V k
def RDG (s : ST) (m : Nat) (S V : SV) (cs : Nat → List Int32) : Prop := STR s.B s.n m S V ∧ GdS S V cs ∧ (∀ p, p < 3 → wfc 1 (cs p)) ∧ (cs 0).length + (cs 1).length + (cs 2).length ≤ 160
theorem jC_text {g : WG} {M : MM} {s : ST} {Q : Option Value → MM → Prop} (h : RC M s) (k : SOK s) (q1 : s.T = 6 → Q (some (.int (-4))) M) (q2 : s.T < 6 → ∀ m S V i, RDF s m S V i → ∀ M', LO M M' → RC M' (s.toN 0 s.B) → Q (some (.int (-100 - nI (pl s.B s.n i)))) M') (q3 : s.T < 6 → ∀ m S V cs, RDG s m S V cs → ∀ M', LO M M' → RC M' (s.toT cs) → Q (some (.int (nI s.T))) M') : T_X5_text g [.ref 0] M Q := by
  have hT := k.wf.2.2.2.2
  refine ⟨s.T, s.n, rfl, h.cnt, hT, h.len, k.tape, q1, fun h5 m S V M' f hST hs h34 hF => ?_, fun h5 m S V M' cs hST hs h34 h06 hG hw hl htx hxc => ?_⟩
  · have hST := STR_c (fun j hj => (h.tape j hj).symm) hST
    obtain ⟨-, i, hi, hFl, e⟩ := hF
    rw [e, pl_c h.tape]
    refine q2 h5 m S V i ⟨hST, hi, hFl⟩ M' (hs.LO fun a b q => by unfold YRd YT YP at q; omega) ?_
    refine h.low _ k hs (fun a b q => by unfold YRd YT YP at q; unfold YLo; omega) rfl rfl rfl rfl h34 ?_ (fun i hi => ?_)
    · exact fun j hj => absurd hj (Nat.not_lt_zero j)
    · obtain ⟨a, b, c⟩ := h.sht i hi
      exact ⟨by rw [hs _ _ (by unfold YRd YT YP; omega)]; exact a, by rw [hs _ _ (by unfold YRd YT YP; omega)]; exact b, fun j hj => by rw [hs _ _ (by unfold YRd YT YP; omega)]; exact c j hj⟩
  · have hST := STR_c (fun j hj => (h.tape j hj).symm) hST
    refine q3 h5 m S V cs ⟨hST, hG, hw, hl⟩ M' (hs.LO fun a b q => by unfold YRd YT YP at q; omega) ?_
    refine h.low2 _ k hs (fun a b q => by unfold YRd YT YP at q; unfold YLo; omega) rfl (fun t ht p hp => if_neg (by omega)) (fun t h1 h2 => ?_) rfl h06 h34 ?_ (fun i hi => ?_)
    · have : t = s.T := by
        have h2 : t < s.T + 1 := h2
        omega
      subst this
      exact ⟨htx, fun p hp => by rw [hxc p hp]; exact (if_pos rfl).symm⟩
    · exact fun j hj => absurd hj (Nat.not_lt_zero j)
    · obtain ⟨a, b, c⟩ := h.sht i hi
      exact ⟨by rw [hs _ _ (by unfold YRd YT YP; omega)]; exact a, by rw [hs _ _ (by unfold YRd YT YP; omega)]; exact b, fun j hj => by rw [hs _ _ (by unfold YRd YT YP; omega)]; exact c j hj⟩

