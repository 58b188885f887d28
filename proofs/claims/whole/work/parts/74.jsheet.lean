/-! ===== cell, copy, seams ===== -/
def ST.toC (s : ST) (cel : Nat → Nat → Int32) : ST := s.toS s.srt s.siz cel
theorem SOK.toC {s : ST} (k : SOK s) (cel : Nat → Nat → Int32) : SOK (s.toC cel) := ⟨k.wf, k.n6, k.T1, k.date, k.tape, k.sort, k.size, k.img⟩
theorem RC.cel {M M' : MM} {s : ST} {b : Nat} {c : Nat → Int32} (h : RC M s) (k : SOK s) (hb : b < 4) (hs : Sm (fun x _ => x = 33 + 2 * b) M M') (e : ∀ j, j < 40 → M' (33 + 2 * b) j = c j) : RC M' (s.toC (upC s.cel b c)) := by
  refine h.low _ k hs (fun a b q => ?_) rfl rfl rfl rfl ?_ ?_ (fun j hj => ?_)
  · unfold YLo; omega
  · rw [hs 3 4 (by omega)]; exact h.len
  · exact fun j hj => (hs _ _ (by omega)).trans (h.tape j hj)
  · show M' (32 + 2 * j) 1 = s.srt j ∧ M' (32 + 2 * j) 2 = s.siz j ∧ ∀ j', j' < 40 → M' (33 + 2 * j) j' = upC s.cel b c j j'
    obtain ⟨x, y, z⟩ := h.sht j hj
    refine ⟨by rw [hs _ _ (by omega)]; exact x, by rw [hs _ _ (by omega)]; exact y, fun j' hj' => ?_⟩
    unfold upC
    by_cases g : j = b
    · subst g
      rw [if_pos rfl]; exact e j' hj'
    · rw [if_neg g, hs _ _ (by omega)]; exact z j' hj'
theorem RM.cel {M M' : MM} {s : ST} {b : Nat} {c : Nat → Int32} (h : RM M s) (k : SOK s) (hb : b < 4) (hs : Sm (fun x y => x = 101 ∧ 40 * b ≤ y ∧ y < 40 * b + 40) M M') (e : ∀ j, j < 40 → M' 101 (40 * b + j) = c j) : RM M' (s.toC (upC s.cel b c)) := by
  obtain ⟨c0, c1, c2, c3⟩ := h.cod
  refine h.low _ k hs c2 c3 c1 (hs _ _ (by omega)) (hs _ _ (by omega)) (fun a b q => by unfold YHi; omega) (fun s' hs' => by rw [hs 83 s' (by omega)]; exact h.z s' hs') rfl rfl rfl rfl ?_ ?_ (fun j hj => ?_)
  · rw [hs 76 10 (by omega)]; exact h.len
  · exact fun j hj => (hs _ _ (by omega)).trans (h.tape j hj)
  · show M' 99 j = s.srt j ∧ M' 100 j = s.siz j ∧ ∀ j', j' < 40 → M' 101 (40 * j + j') = upC s.cel b c j j'
    obtain ⟨x, y, z⟩ := h.sht j hj
    refine ⟨by rw [hs _ _ (by omega)]; exact x, by rw [hs _ _ (by omega)]; exact y, fun j' hj' => ?_⟩
    unfold upC
    by_cases g : j = b
    · subst g
      rw [if_pos rfl]; exact e j' hj'
    · rw [if_neg g, hs _ _ (by omega)]; exact z j' hj'
def celS (s : ST) (a k : Nat) (v : Int32) : ST := s.toC (upC s.cel a (fun j => if j = k then cnv (s.srt a) v else s.cel a j))
theorem celA_1 {f v : Nat → Int32} {a k' n : Nat} (ha : a < 4) (h0 : ¬ f a < 0) (hv : v a = nI n) (hn : n ≤ 40) (hk : k' < n) : celA f v (nI a) (nI k') = 1 := by
  unfold celA
  rw [if_neg (fun q => q ⟨nI_pos' (by omega), (nI_leI (b := 3) (by omega) (by decide)).mpr (by omega)⟩), nI_clamp (by omega), if_neg h0, hv, if_neg (fun q => q ⟨nI_pos' (by omega), nI_lt hk (by omega)⟩)]
theorem jC_cell {g : WG} {M : MM} {s : ST} {sh i v : Int32} {Q : Option Value → MM → Prop} (h : RC M s) (k : SOK s) (q1 : ¬ celA s.srt s.siz sh i = 1 → Q (some (.int (celA s.srt s.siz sh i))) M) (q2 : celA s.srt s.siz sh i = 1 → ∀ a k', a < 4 → k' < 40 → sh = nI a → i = nI k' → ∀ M', LO M M' → RC M' (celS s a k' v) → Q (some (.int 1)) M') : T_X5_cell g [.ref 0, .int sh, .int i, .int v] M Q := by
  refine ⟨sh, i, v, rfl, fun a ha => by rw [(h.sht a ha).2.1]; exact k.size a ha, fun a ha => by rw [(h.sht a ha).1]; exact k.sort a ha, ?_, fun a k' n hsh ha hi hn hkn h40 hneg => q2 (by rw [hsh, hi]; exact celA_1 ha (by rw [← (h.sht a ha).1]; exact hneg) (by rw [← (h.sht a ha).2.1]; exact hn) h40 hkn) a k' ha (by omega) hsh hi _ ?_ ?_⟩
  · rw [celA_c (f := s.srt) (v := s.siz) (fun a ha => (h.sht a ha).1) (fun a ha => (h.sht a ha).2.1)]; exact q1
  · intro x hx
    exact funext fun j => ms_q (by omega)
  · rw [(h.sht a ha).1]
    refine h.cel k ha (Sm.rf.set _ rfl) (fun j hj => ?_)
    by_cases e : j = k'
    · rw [if_pos e, e, ms_s]
    · rw [if_neg e, ms_j e]; exact (h.sht a ha).2.2 j hj
theorem jM_cell {g : WG} {M : MM} {s : ST} {sh i v : Int32} {Q : Option Value → MM → Prop} (h : RM M s) (k : SOK s) (q1 : ¬ celA s.srt s.siz sh i = 1 → Q (some (.int (celA s.srt s.siz sh i))) M) (q2 : celA s.srt s.siz sh i = 1 → ∀ a k', a < 4 → k' < 40 → sh = nI a → i = nI k' → ∀ M', HI M M' → RM M' (celS s a k' v) → Q (some (.int 1)) M') : T_X6_cell g [.ref 76, .int sh, .int i, .int v] M Q := by
  refine ⟨sh, i, v, rfl, fun a ha => by rw [(h.sht a ha).2.1]; exact k.size a ha, ?_, fun a k' n hsh ha hi hn hkn h40 hneg => q2 (by rw [hsh, hi]; exact celA_1 ha (by rw [← (h.sht a ha).1]; exact hneg) (by rw [← (h.sht a ha).2.1]; exact hn) h40 hkn) a k' ha (by omega) hsh hi _ ?_ ?_⟩
  · rw [celA_c (f := s.srt) (v := s.siz) (fun a ha => (h.sht a ha).1) (fun a ha => (h.sht a ha).2.1)]; exact q1
  · intro x hx
    exact funext fun j => ms_q (by omega)
  · rw [(h.sht a ha).1]
    refine h.cel k ha (Sm.rf.set _ ⟨rfl, by omega, by omega⟩) (fun j hj => ?_)
    by_cases e : j = k'
    · rw [if_pos e, e, ms_s]
    · rw [if_neg e, ms_j (by omega)]; exact (h.sht a ha).2.2 j hj
def copS (s : ST) (a b i j n : Nat) : ST := s.toC (upC s.cel b (fun y => if j ≤ y ∧ y < j + n then s.cel a (i + (y - j)) else s.cel b y))
theorem jC_copy {g : WG} {M : MM} {s : ST} {sh i ot j n : Int32} {Q : Option Value → MM → Prop} (h : RC M s) (k : SOK s) (q1 : copA s.srt s.siz sh i ot j n < 0 → Q (some (.int (copA s.srt s.siz sh i ot j n))) M) (q2 : ¬ copA s.srt s.siz sh i ot j n < 0 → ∀ a b i' j' n', sh = nI a → ot = nI b → a < 4 → b < 4 → i = nI i' → j = nI j' → n = nI n' → i' + n' ≤ 40 → j' + n' ≤ 40 → ∀ M', LO M M' → RC M' (copS s a b i' j' n') → Q (some (.int (nI n'))) M') : T_X5_copy g [.ref 0, .int sh, .int i, .int ot, .int j, .int n] M Q := by
  refine ⟨sh, i, ot, j, n, rfl, fun a ha => by rw [(h.sht a ha).2.1]; exact k.size a ha, fun a ha => by rw [(h.sht a ha).1]; exact k.sort a ha, ?_, fun h0 a b i' j' n' M' hsh hot ha hb hi hj hn b1 b2 hs he => q2 (by rw [← copA_c (f := s.srt) (v := s.siz) (fun a ha => (h.sht a ha).1) (fun a ha => (h.sht a ha).2.1)]; exact h0) a b i' j' n' hsh hot ha hb hi hj hn b1 b2 M' (hs.LO fun x y z => by omega) ?_⟩
  · rw [copA_c (f := s.srt) (v := s.siz) (fun a ha => (h.sht a ha).1) (fun a ha => (h.sht a ha).2.1)]; exact q1
  · refine h.cel k hb (hs.mono fun x y z => z.1) (fun y hy => ?_)
    by_cases e : j' ≤ y ∧ y < j' + n'
    · have := he (y - j') (by omega)
      rw [show j' + (y - j') = y by omega] at this
      rw [if_pos e, this]; exact (h.sht a ha).2.2 _ (by omega)
    · rw [if_neg e, hs _ _ (fun z => e z.2)]; exact (h.sht b hb).2.2 y hy
theorem jM_copy {g : WG} {M : MM} {s : ST} {sh i ot j n : Int32} {Q : Option Value → MM → Prop} (h : RM M s) (k : SOK s) (q1 : copA s.srt s.siz sh i ot j n < 0 → Q (some (.int (copA s.srt s.siz sh i ot j n))) M) (q2 : ¬ copA s.srt s.siz sh i ot j n < 0 → ∀ a b i' j' n', sh = nI a → ot = nI b → a < 4 → b < 4 → i = nI i' → j = nI j' → n = nI n' → i' + n' ≤ 40 → j' + n' ≤ 40 → ∀ M', HI M M' → RM M' (copS s a b i' j' n') → Q (some (.int (nI n'))) M') : T_X6_copy g [.ref 76, .int sh, .int i, .int ot, .int j, .int n] M Q := by
  refine ⟨sh, i, ot, j, n, rfl, fun a ha => by rw [(h.sht a ha).2.1]; exact k.size a ha, ?_, fun h0 a b i' j' n' M' hsh hot ha hb hi hj hn b1 b2 hs he => q2 (by rw [← copA_c (f := s.srt) (v := s.siz) (fun a ha => (h.sht a ha).1) (fun a ha => (h.sht a ha).2.1)]; exact h0) a b i' j' n' hsh hot ha hb hi hj hn b1 b2 M' (hs.HI fun x y z => by omega) ?_⟩
  · rw [copA_c (f := s.srt) (v := s.siz) (fun a ha => (h.sht a ha).1) (fun a ha => (h.sht a ha).2.1)]; exact q1
  · refine h.cel k hb (hs.mono fun x y z => ⟨z.1, by omega, by omega⟩) (fun y hy => ?_)
    by_cases e : j' ≤ y ∧ y < j' + n'
    · have := he (y - j') (by omega)
      rw [show 40 * b + j' + (y - j') = 40 * b + y by omega, show 40 * a + i' + (y - j') = 40 * a + (i' + (y - j')) by omega] at this
      rw [if_pos e, this]; exact (h.sht a ha).2.2 _ (by omega)
    · rw [if_neg e, hs _ _ (fun z => by omega)]; exact (h.sht b hb).2.2 y hy
/-! seams -/
theorem smN_c {c c' : Nat → Int32} {siz : Nat} (h : ∀ j, j < siz → c' j = c j) : ∀ m a came D, smN c' siz m a came D = smN c siz m a came D
  | 0, _, _, _ => rfl
  | m + 1, a, came, D => by
    simp only [smN]
    split
    · rw [h a (by omega), h (a + 1) (by omega), h (a + 2) (by omega), smN_c h m]
    · rfl
theorem smA_c {c c' : Nat → Int32} {siz : Nat} (h : ∀ j, j < siz → c' j = c j) (n : Nat) (fr : Int32) (D : DV) : smA c' siz n fr D = smA c siz n fr D := by
  unfold smA
  rw [smN_c h]
/-- what the seams of a sheet leave as it was -/
def SMK (D D' : DV) (T : Nat) : Prop := wfD D' T ∧ dn D' ≤ 6 ∧ dn D ≤ dn D' ∧ D' 7 1 = D 7 1 ∧ ∀ i, i < dn D → D' 1 i = D 1 i
theorem SMK.rf {D : DV} {T : Nat} (h : wfD D T) (h6 : dn D ≤ 6) : SMK D D T := ⟨h, h6, Nat.le_refl _, rfl, fun _ _ => rfl⟩
theorem SMK.e {D D' : DV} {T : Nat} {kd n e : Int32} (h : SMK D D' T) : SMK D (smE D' kd n e) T := by
  obtain ⟨a, b, c, d, f⟩ := h
  obtain ⟨w1, w2⟩ := wfD_sm (k := kd) (n := n) (e := e) a b
  refine ⟨w1, w2, ?_, ?_, fun i hi => ?_⟩
  · unfold smE
    split
    · rw [dn_addD b]; omega
    · exact c
  · unfold smE
    split
    · rw [← d]; simp [addD]
    · exact d
  · unfold smE
    split
    · have : ¬ i = dn D' := by omega
      rw [← f i hi]; simp [addD, this]
    · exact f i hi
theorem smN_k {c : Nat → Int32} {siz T : Nat} {D : DV} : ∀ m a came D', SMK D D' T → SMK D (smN c siz m a came D').2 T
  | 0, _, _, _, h => h
  | m + 1, a, came, D', h => by
    simp only [smN]
    split
    · exact smN_k m _ _ _ h.e
    · exact h
theorem smA_k {c : Nat → Int32} {siz T n : Nat} {fr : Int32} {D : DV} (h : wfD D T) (h6 : dn D ≤ 6) : SMK D (smA c siz n fr D).2 T := by
  unfold smA
  split
  · exact SMK.rf h h6
  · split
    · exact SMK.rf h h6
    · exact smN_k _ _ _ _ (SMK.rf h h6)
theorem SOK.smk {s : ST} {D' : DV} (k : SOK s) (h : SMK s.D D' s.T) : SOK (s.toD D') := k.toD h.1 h.2.1 h.2.2.1 (by rw [h.2.2.2.1]; exact k.date)
def smS (s : ST) (a n : Nat) (fr : Int32) : Int32 × DV := smA (s.cel a) (s.siz a).toNatClampNeg n fr s.D
theorem jC_seams {g : WG} {M : MM} {s : ST} {sh so fr n : Int32} {Q : Option Value → MM → Prop} (h : RC M s) (k : SOK s) (q1 : ¬ smC s.srt sh so n = 0 → Q (some (.int (smC s.srt sh so n))) M) (q2 : smC s.srt sh so n = 0 → ∀ a n', sh = nI a → a < 4 → n = nI n' → n' ≤ 6 → ∀ M', LO M M' → RC M' (s.toD (smS s a n' fr).2) → Q (some (.int (smS s a n' fr).1)) M') : T_X5_seams g [.ref 0, .int sh, .int so, .int fr, .int n] M Q := by
  have e : smC (fun a => M (32 + 2 * a) 1) sh so n = smC s.srt sh so n := smC_c (fun a ha => (h.sht a ha).1) sh so n
  refine ⟨sh, so, fr, n, rfl, h.ok k, by rw [h.day]; exact k.n6, fun a ha => by rw [(h.sht a ha).2.1]; exact k.size a ha, fun a ha => by rw [(h.sht a ha).1]; exact k.sort a ha, by rw [e]; exact q1, fun h0 a n' M' hsh ha hn hn6 hs hd => ?_⟩
  rw [e] at h0
  obtain ⟨z, hz, ez⟩ := k.size a ha
  have e2 : smA (M (33 + 2 * a)) (M (32 + 2 * a) 2).toNatClampNeg n' fr (dv M 40) = smS s a n' fr := by
    unfold smS
    rw [(h.sht a ha).2.1, h.day]
    exact smA_c (fun j hj => (h.sht a ha).2.2 j (by rw [ez, nI_clamp (by omega)] at hj; omega)) n' fr s.D
  rw [e2] at hd ⊢
  exact q2 h0 a n' hsh ha hn hn6 M' (hs.LO XD_lo) (h.toD k hs hd)
theorem jM_seams {g : WG} {M : MM} {s : ST} {sh so fr n : Int32} {Q : Option Value → MM → Prop} (h : RM M s) (k : SOK s) (q1 : ¬ smC s.srt sh so n = 0 → Q (some (.int (smC s.srt sh so n))) M) (q2 : smC s.srt sh so n = 0 → ∀ a n', sh = nI a → a < 4 → n = nI n' → n' ≤ 6 → ∀ M', HI M M' → RM M' (s.toD (smS s a n' fr).2) → Q (some (.int (smS s a n' fr).1)) M') : T_X6_seams g [.ref 76, .int sh, .int so, .int fr, .int n] M Q := by
  have e : smC (M 99) sh so n = smC s.srt sh so n := smC_c (fun a ha => (h.sht a ha).1) sh so n
  refine ⟨sh, so, fr, n, rfl, h.ok k, h.z, by rw [h.day]; exact k.n6, fun a ha => by rw [(h.sht a ha).2.1]; exact k.size a ha, by rw [e]; exact q1, fun h0 a n' M' hsh ha hn hn6 hs _ hz' hd => ?_⟩
  rw [e] at h0
  obtain ⟨z, hz, ez⟩ := k.size a ha
  have e2 : smA (fun j => M 101 (40 * a + j)) (M 100 a).toNatClampNeg n' fr (dm M) = smS s a n' fr := by
    unfold smS
    rw [(h.sht a ha).2.1, h.day]
    exact smA_c (fun j hj => (h.sht a ha).2.2 j (by rw [ez, nI_clamp (by omega)] at hj; omega)) n' fr s.D
  rw [e2] at hd ⊢
  have hk : SMK s.D (smS s a n' fr).2 s.T := smA_k k.wf k.n6
  refine q2 h0 a n' hsh ha hn hn6 M' (hs.HI fun a b q => by unfold YM at q; omega) (h.toD hs (fun a b q => by unfold YM at q; unfold YKt; omega) hd hz' (by rw [hs 76 9 (by unfold YM; omega)]; exact h.rul) (fun E q i hi => ?_))
  have hiD : i < dn s.D := Nat.lt_of_lt_of_le hi (k.img E q).2.1
  have f1 : dm M' 1 i = M' 78 i := dm_s 1 (by decide) (by decide) (by rw [hd]; have := hk.2.2.1; omega)
  have f2 : dm M 1 i = M 78 i := dm_s 1 (by decide) (by decide) (by rw [h.day]; exact hiD)
  rw [← f1, ← f2, hd, h.day]
  exact hk.2.2.2.2 i hiD

