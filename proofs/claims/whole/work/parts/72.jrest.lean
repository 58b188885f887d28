/-! ===== force, sheets, film, tells, image, back, seams ===== -/
theorem jM_force {g : WG} {M : MM} {s : ST} {x : Int32} {Q : Option Value → MM → Prop} (h : RM M s) (k : SOK s) (q1 : ¬ (0 ≤ x ∧ x < nI s.T) → Q (some (.int (-2))) M) (q2 : ∀ t, x = nI t → t < s.T → ∀ M', HI M M' → RM M' (s.toR t) → Q (some (.int (ruN s))) M') : T_X6_force g [.ref 76, .int x] M Q := by
  have hT := k.wf.2.2.2.2
  refine ⟨x, s.T, rfl, h.cnt, by omega, q1, fun hx => ?_⟩
  obtain ⟨t, ht, rfl⟩ := nI_of (i_not_lt.mpr hx.1)
  have htT := (nI_ltI ht (by omega)).mp hx.2
  rw [h.ruN k]
  have hs : Sm (fun a b => a = 76 ∧ b = 9) M (mset M 76 9 (nI t)) := Sm.rf.set _ ⟨rfl, rfl⟩
  have hr := okM_r (M := M) hT htT h.txt (by rw [h.day]; exact k.wf)
  refine q2 t rfl htT _ (hs.HI fun a b q => by omega) ?_
  have := h.toD (D' := upF s.D 7 2 (nI (8 + 4 * t))) hs (fun a b q => by unfold YKt; omega) (by rw [hr.2.1, h.day]) (hr.2.2.2 h.z) ⟨t, htT, ms_s _ _ _ _⟩ (fun E _ i _ => ms_q (by decide))
  exact this
/-! the sheets -/
def upS (f : Nat → Int32) (i : Nat) (x : Int32) : Nat → Int32 := fun j => if j = i then x else f j
def upC (f : Nat → Nat → Int32) (i : Nat) (c : Nat → Int32) : Nat → Nat → Int32 := fun a j => if a = i then c j else f a j
theorem SOK.toS {s : ST} (k : SOK s) {i n : Nat} {x : Int32} {c : Nat → Int32} (hx : x = -1 ∨ 0 ≤ x) (hn : n ≤ 40) : SOK (s.toS (upS s.srt i x) (upS s.siz i (nI n)) (upC s.cel i c)) := by
  refine ⟨k.wf, k.n6, k.T1, k.date, k.tape, fun j hj => ?_, fun j hj => ?_, k.img⟩
  · show upS s.srt i x j = -1 ∨ 0 ≤ upS s.srt i x j
    unfold upS
    split
    · exact hx
    · exact k.sort j hj
  · show ∃ n', n' ≤ 40 ∧ upS s.siz i (nI n) j = nI n'
    unfold upS
    split
    · exact ⟨n, hn, rfl⟩
    · exact k.size j hj
/-- a sheet is made anew, in the class -/
theorem RC.sheet {Y : Nat → Nat → Prop} {M M' : MM} {s : ST} {i : Nat} {x y : Int32} {c : Nat → Int32} (h : RC M s) (k : SOK s) (hi : i < 4) (hs : Sm Y M M') (hy : ∀ a b, Y a b → YC a b ∨ (a = 32 + 2 * i ∧ (b = 1 ∨ b = 2)) ∨ a = 33 + 2 * i) (e1 : M' (32 + 2 * i) 1 = x) (e2 : M' (32 + 2 * i) 2 = y) (e3 : ∀ j, j < 40 → M' (33 + 2 * i) j = c j) : RC M' (s.toS (upS s.srt i x) (upS s.siz i y) (upC s.cel i c)) := by
  have hs := hs.mono hy
  refine h.low _ k hs (fun a b q => ?_) rfl rfl rfl rfl ?_ ?_ (fun j hj => ?_)
  · refine ⟨?_, ?_⟩
    · unfold YLo
      rcases q with q | q | q
      · exact Or.inl q
      · exact Or.inr (Or.inr (Or.inr (Or.inl (by omega))))
      · exact Or.inr (Or.inr (Or.inr (Or.inl (by omega))))
    · rintro ⟨rfl, rfl⟩
      rcases q with q | q | q
      · unfold YC XD XP isPile at q; omega
      · omega
      · omega
  · rw [hs 3 4 (by unfold YC XD XP isPile; omega)]; exact h.len
  · exact fun j hj => (hs _ _ (by unfold YC XD XP isPile; omega)).trans (h.tape j hj)
  · show M' (32 + 2 * j) 1 = upS s.srt i x j ∧ M' (32 + 2 * j) 2 = upS s.siz i y j ∧ ∀ j', j' < 40 → M' (33 + 2 * j) j' = upC s.cel i c j j'
    unfold upS upC
    by_cases e : j = i
    · subst e
      simp only [if_true]
      exact ⟨e1, e2, e3⟩
    · simp only [e, if_false]
      obtain ⟨a, b, d⟩ := h.sht j hj
      exact ⟨by rw [hs _ _ (by unfold YC XD XP isPile; omega)]; exact a, by rw [hs _ _ (by unfold YC XD XP isPile; omega)]; exact b, fun j' hj' => by rw [hs _ _ (by unfold YC XD XP isPile; omega)]; exact d j' hj'⟩
theorem RM.sheet {Y : Nat → Nat → Prop} {M M' : MM} {s : ST} {i : Nat} {x y : Int32} {c : Nat → Int32} (h : RM M s) (k : SOK s) (hi : i < 4) (hs : Sm Y M M') (hy : ∀ a b, Y a b → YS a b ∨ (a = 99 ∧ b = i) ∨ (a = 100 ∧ b = i) ∨ (a = 101 ∧ 40 * i ≤ b ∧ b < 40 * i + 40)) (e1 : M' 99 i = x) (e2 : M' 100 i = y) (e3 : ∀ j, j < 40 → M' 101 (40 * i + j) = c j) : RM M' (s.toS (upS s.srt i x) (upS s.siz i y) (upC s.cel i c)) := by
  have hs := hs.mono hy
  have n6 := k.n6
  obtain ⟨c0, c1, c2, c3⟩ := h.cod
  refine h.low _ k hs c2 c3 c1 (hs _ _ (by unfold YS; omega)) (hs _ _ (by unfold YS; omega)) (fun a b q => ?_) (fun s' hs' => by rw [hs 83 s' (by unfold YS; omega)]; exact h.z s' hs') rfl rfl rfl rfl ?_ ?_ (fun j hj => ?_)
  · unfold YS at q
    unfold YHi YZ
    omega
  · rw [hs 76 10 (by unfold YS; omega)]; exact h.len
  · exact fun j hj => (hs _ _ (by unfold YS; omega)).trans (h.tape j hj)
  · show M' 99 j = upS s.srt i x j ∧ M' 100 j = upS s.siz i y j ∧ ∀ j', j' < 40 → M' 101 (40 * j + j') = upC s.cel i c j j'
    unfold upS upC
    by_cases e : j = i
    · subst e
      simp only [if_true]
      exact ⟨e1, e2, e3⟩
    · simp only [e, if_false]
      obtain ⟨a, b, d⟩ := h.sht j hj
      exact ⟨by rw [hs _ _ (by unfold YS; omega)]; exact a, by rw [hs _ _ (by unfold YS; omega)]; exact b, fun j' hj' => by rw [hs _ _ (by unfold YS; omega)]; exact d j' hj'⟩
def sheS (s : ST) (i : Nat) (x : Int32) (y : Int32) : ST := s.toS (upS s.srt i x) (upS s.siz i y) (upC s.cel i (fun _ => 0))
theorem jC_sheet {g : WG} {M : MM} {s : ST} {sh srt n : Int32} {Q : Option Value → MM → Prop} (h : RC M s) (k : SOK s) (q1 : ¬ shA sh srt n = 1 → Q (some (.int (shA sh srt n))) M) (q2 : shA sh srt n = 1 → ∀ i, sh = nI i → i < 4 → ∀ M', LO M M' → RC M' (sheS s i srt (if srt < 0 then 0 else n)) → Q (some (.int 1)) M') : T_X5_sheet g [.ref 0, .int sh, .int srt, .int n] M Q :=
  ⟨sh, srt, n, rfl, q1, fun h1 i M' hsh hi hs e1 e2 e3 => q2 h1 i hsh hi M' (hs.LO fun a b q => by omega) (h.sheet k hi hs (fun a b q => Or.inr q) e1 e2 e3)⟩
theorem jM_sheet {g : WG} {M : MM} {s : ST} {sh srt n : Int32} {Q : Option Value → MM → Prop} (h : RM M s) (k : SOK s) (q1 : ¬ shA sh srt n = 1 → Q (some (.int (shA sh srt n))) M) (q2 : shA sh srt n = 1 → ∀ i, sh = nI i → i < 4 → ∀ M', HI M M' → RM M' (sheS s i srt (if srt < 0 then 0 else n)) → Q (some (.int 1)) M') : T_X6_sheet g [.ref 76, .int sh, .int srt, .int n] M Q :=
  ⟨sh, srt, n, rfl, q1, fun h1 i M' hsh hi hs e1 e2 e3 => q2 h1 i hsh hi M' (hs.HI fun a b q => by omega) (h.sheet k hi hs (fun a b q => Or.inr q) e1 e2 e3)⟩
/-! film -/
def filS (s : ST) (i k : Nat) : ST := s.toS (upS s.srt i 2) (upS s.siz i (nI k)) (upC s.cel i (fun j => if j < k then wor s.X (pasN s.X s.D j) else 0))
theorem jC_film {g : WG} {M : MM} {s : ST} {sh n : Int32} {Q : Option Value → MM → Prop} (h : RC M s) (k : SOK s) (q1 : ¬ ((0 ≤ sh ∧ sh ≤ 3) ∧ (0 ≤ n ∧ n ≤ 40)) → Q (some (.int (-2))) M) (q2 : ∀ i k', sh = nI i → i < 4 → n = nI k' → k' ≤ 40 → ∀ M', LO M M' → RC M' (filS s i k') → Q (some (.int (nI k'))) M') : T_X5_film g [.ref 0, .int sh, .int n] M Q := by
  refine ⟨sh, n, rfl, h.ok k, q1, fun i k' M' hsh hi hn hk hs e1 e2 e3 => q2 i k' hsh hi hn hk M' (hs.LO fun a b q => ?_) (h.sheet k hi hs (fun _ _ q => q) e1 e2 fun j hj => ?_)⟩
  · rcases q with q | q
    · exact YC_lo a b q
    · omega
  · rw [e3 j hj, h.day, pasN_e (h.eq k), wor_e ((h.eq k).c (pasN_72 _ _ _))]
theorem jM_film {g : WG} {M : MM} {s : ST} {sh n : Int32} {Q : Option Value → MM → Prop} (h : RM M s) (k : SOK s) (q1 : ¬ ((0 ≤ sh ∧ sh ≤ 3) ∧ (0 ≤ n ∧ n ≤ 40)) → Q (some (.int (-2))) M) (q2 : ∀ i k', sh = nI i → i < 4 → n = nI k' → k' ≤ 40 → ∀ M', HI M M' → RM M' (filS s i k') → Q (some (.int (nI k'))) M') : T_X6_film g [.ref 76, .int sh, .int n] M Q := by
  refine ⟨sh, n, rfl, h.ok k, h.z, q1, fun i k' M' hsh hi hn hk hs e1 e2 e3 => q2 i k' hsh hi hn hk M' (hs.HI fun a b q => ?_) (h.sheet k hi hs (fun _ _ q => q) e1 e2 fun j hj => ?_)⟩
  · unfold YS at q; omega
  · rw [e3 j hj, h.day, pasN_e (h.eq k), wor_e ((h.eq k).c (pasN_72 _ _ _))]

