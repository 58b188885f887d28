/-! ===== both calls, one behind the other ===== -/
def J (M : MM) : Prop := ∃ s, SOK s ∧ RC M s ∧ RM M s
def isI (r : Option Value) : Prop := ∃ z : Int32, r = some (.int z)
def isL (r : Option Value) : Prop := ∃ z : Int64, r = some (.long z)
/-- from here the other side comes to this answer too, and both mean the same state -/
def RDY (P : (Option Value → MM → Prop) → Prop) (r : Option Value) : Prop := ∀ Q2 : Option Value → MM → Prop, (∀ M2, J M2 → Q2 r M2) → P Q2
theorem p_told {g : WG} {M : MM} {o w : Int32} {Q : Option Value → MM → Prop} (h : J M) (q : ∀ r M1, isI r → RDY (fun Q2 => T_X6_told g [.ref 76, .int o, .int w] M1 Q2) r → Q r M1) : T_X5_told g [.ref 0, .int o, .int w] M Q := by
  obtain ⟨s, k, hc, hm⟩ := h
  exact jC_told hc k fun M1 lo rc => q _ M1 ⟨_, rfl⟩ fun Q2 q2 => jM_told (hm.lo lo) k fun M2 hi rm => q2 M2 ⟨s, k, rc.hi k hi, rm⟩
theorem p_hours {g : WG} {M : MM} {w : Int32} {Q : Option Value → MM → Prop} (h : J M) (q : ∀ r M1, isI r → RDY (fun Q2 => T_X6_hours g [.ref 76, .int w] M1 Q2) r → Q r M1) : T_X5_hours g [.ref 0, .int w] M Q := by
  obtain ⟨s, k, hc, hm⟩ := h
  exact jC_hours hc k fun M1 lo rc => q _ M1 ⟨_, rfl⟩ fun Q2 q2 => jM_hours (hm.lo lo) k fun M2 hi rm => q2 M2 ⟨s, k, rc.hi k hi, rm⟩
theorem p_run {g : WG} {M : MM} {n w : Int32} {Q : Option Value → MM → Prop} (h : J M) (q : ∀ r M1, isI r → RDY (fun Q2 => T_X6_run g [.ref 76, .int n, .int w] M1 Q2) r → Q r M1) : T_X5_run g [.ref 0, .int n, .int w] M Q := by
  obtain ⟨s, k, hc, hm⟩ := h
  exact jC_run hc k fun M1 lo rc => q _ M1 ⟨_, rfl⟩ fun Q2 q2 => jM_run (hm.lo lo) k fun M2 hi rm => q2 M2 ⟨s, k, rc.hi k hi, rm⟩
theorem p_cut {g : WG} {M : MM} {a n w : Int32} {Q : Option Value → MM → Prop} (h : J M) (q : ∀ r M1, isI r → RDY (fun Q2 => T_X6_cut g [.ref 76, .int a, .int n, .int w] M1 Q2) r → Q r M1) : T_X5_cut g [.ref 0, .int a, .int n, .int w] M Q := by
  obtain ⟨s, k, hc, hm⟩ := h
  exact jC_cut hc k fun M1 lo rc => q _ M1 ⟨_, rfl⟩ fun Q2 q2 => jM_cut (hm.lo lo) k fun M2 hi rm => q2 M2 ⟨s, k, rc.hi k hi, rm⟩
theorem p_unpick {g : WG} {M : MM} {w : Int32} {Q : Option Value → MM → Prop} (h : J M) (q : ∀ r M1, isI r → RDY (fun Q2 => T_X6_unpick g [.ref 76, .int w] M1 Q2) r → Q r M1) : T_X5_unpick g [.ref 0, .int w] M Q := by
  obtain ⟨s, k, hc, hm⟩ := h
  exact jC_unpick hc k fun M1 lo rc => q _ M1 ⟨_, rfl⟩ fun Q2 q2 => jM_unpick (hm.lo lo) k fun M2 hi rm => q2 M2 ⟨s, k, rc.hi k hi, rm⟩
theorem p_thread {g : WG} {M : MM} {a n w : Int32} {Q : Option Value → MM → Prop} (h : J M) (q : ∀ r M1, isI r → RDY (fun Q2 => T_X6_thread g [.ref 76, .int a, .int n, .int w] M1 Q2) r → Q r M1) : T_X5_thread g [.ref 0, .int a, .int n, .int w] M Q := by
  obtain ⟨s, k, hc, hm⟩ := h
  exact jC_thread hc k fun M1 lo rc => q _ M1 ⟨_, rfl⟩ fun Q2 q2 => jM_thread (hm.lo lo) k fun M2 hi rm => q2 M2 ⟨s, k, rc.hi k hi, rm⟩
theorem p_move {g : WG} {M : MM} {a w : Int32} {Q : Option Value → MM → Prop} (h : J M) (q : ∀ r M1, isI r → RDY (fun Q2 => T_X6_move g [.ref 76, .int a, .int w] M1 Q2) r → Q r M1) : T_X5_move g [.ref 0, .int a, .int w] M Q := by
  obtain ⟨s, k, hc, hm⟩ := h
  exact jC_move hc k fun M1 lo rc => q _ M1 ⟨_, rfl⟩ fun Q2 q2 => jM_move (hm.lo lo) k fun M2 hi rm => q2 M2 ⟨s, k, rc.hi k hi, rm⟩
theorem p_chance {g : WG} {M : MM} {a n w : Int32} {Q : Option Value → MM → Prop} (h : J M) (q : ∀ r M1, isL r → RDY (fun Q2 => T_X6_chance g [.ref 76, .int a, .int n, .int w] M1 Q2) r → Q r M1) : T_X5_chance g [.ref 0, .int a, .int n, .int w] M Q := by
  obtain ⟨s, k, hc, hm⟩ := h
  exact jC_chance hc k fun M1 lo rc => q _ M1 ⟨_, rfl⟩ fun Q2 q2 => jM_chance (hm.lo lo) k fun M2 hi rm => q2 M2 ⟨s, k, rc.hi k hi, rm⟩
theorem p_drawn {g : WG} {M : MM} {a : Int32} {Q : Option Value → MM → Prop} (h : J M) (q : ∀ r M1, isI r → RDY (fun Q2 => T_X6_drawn g [.ref 76, .int a] M1 Q2) r → Q r M1) : T_X5_drawn g [.ref 0, .int a] M Q := by
  obtain ⟨s, k, hc, hm⟩ := h
  exact jC_drawn hc k fun M1 lo rc => q _ M1 ⟨_, rfl⟩ fun Q2 q2 => jM_drawn (hm.lo lo) k fun M2 hi rm => q2 M2 ⟨s, k, rc.hi k hi, rm⟩
theorem p_tells {g : WG} {M : MM} {a w : Int32} {Q : Option Value → MM → Prop} (h : J M) (q : ∀ r M1, isI r → RDY (fun Q2 => T_X6_tells g [.ref 76, .int a, .int w] M1 Q2) r → Q r M1) : T_X5_tells g [.ref 0, .int a, .int w] M Q := by
  obtain ⟨s, k, hc, hm⟩ := h
  exact jC_tells hc k fun M1 lo rc => q _ M1 ⟨_, rfl⟩ fun Q2 q2 => jM_tells (hm.lo lo) k fun M2 hi rm => q2 M2 ⟨s, k, rc.hi k hi, rm⟩
theorem p_taken {g : WG} {M : MM} {x y : Int32} {Q : Option Value → MM → Prop} (h : J M) (q : ∀ r M1, isI r → RDY (fun Q2 => T_X6_taken g [.ref 76, .int x, .int y] M1 Q2) r → Q r M1) : T_X5_taken g [.ref 0, .int x, .int y] M Q := by
  obtain ⟨s, k, hc, hm⟩ := h
  exact jC_taken hc k (q _ M ⟨_, rfl⟩ fun Q2 q2 => jM_taken hm k (q2 M ⟨s, k, hc, hm⟩))
theorem p_count {g : WG} {M : MM} {w : Int32} {Q : Option Value → MM → Prop} (h : J M) (q : ∀ r M1, isI r → RDY (fun Q2 => T_X6_count g [.ref 76, .int w] M1 Q2) r → Q r M1) : T_X5_count g [.ref 0, .int w] M Q := by
  obtain ⟨s, k, hc, hm⟩ := h
  exact jC_count hc k (q _ M ⟨_, rfl⟩ fun Q2 q2 => jM_count hm k fun M2 hi rm => q2 M2 ⟨s, k, hc.hi k hi, rm⟩)
theorem p_set {g : WG} {M : MM} {w o v : Int32} {Q : Option Value → MM → Prop} (h : J M) (q : ∀ r M1, isI r → RDY (fun Q2 => T_X6_set g [.ref 76, .int w, .int o, .int v] M1 Q2) r → Q r M1) : T_X5_set g [.ref 0, .int w, .int o, .int v] M Q := by
  obtain ⟨s, k, hc, hm⟩ := h
  refine jC_set hc k (fun n => q _ M ⟨_, rfl⟩ fun Q2 q2 => jM_set hm k (fun _ => q2 M ⟨s, k, hc, hm⟩) (fun a b => absurd ⟨a, b⟩ n)) (fun a b M1 lo rc => q _ M1 ⟨_, rfl⟩ fun Q2 q2 => jM_set (hm.lo lo) k (fun n => absurd ⟨a, b⟩ n) (fun _ _ M2 hi rm => q2 M2 ⟨_, k.set b, rc.hi (k.set b) hi, rm⟩))
theorem p_seam {g : WG} {M : MM} {w o v : Int32} {Q : Option Value → MM → Prop} (h : J M) (q : ∀ r M1, isI r → RDY (fun Q2 => T_X6_seam g [.ref 76, .int w, .int o, .int v] M1 Q2) r → Q r M1) : T_X5_seam g [.ref 0, .int w, .int o, .int v] M Q := by
  obtain ⟨s, k, hc, hm⟩ := h
  refine jC_seam hc k (fun n => q _ M ⟨_, rfl⟩ fun Q2 q2 => jM_seam hm k (fun _ => q2 M ⟨s, k, hc, hm⟩) (fun a _ => absurd a n) (fun a _ => absurd a n)) (fun a b => q _ M ⟨_, rfl⟩ fun Q2 q2 => jM_seam hm k (fun n => absurd a n) (fun _ _ => q2 M ⟨s, k, hc, hm⟩) (fun _ b' => absurd b (by omega))) (fun a b M1 lo rc => q _ M1 ⟨_, rfl⟩ fun Q2 q2 => jM_seam (hm.lo lo) k (fun n => absurd a n) (fun _ b' => absurd b' (by omega)) (fun _ _ M2 hi rm => q2 M2 ⟨_, k.seam a b, rc.hi (k.seam a b) hi, rm⟩))
theorem p_pass {g : WG} {M : MM} {Q : Option Value → MM → Prop} (h : J M) (q : ∀ r M1, isI r → RDY (fun Q2 => T_X6_pass g [.ref 76] M1 Q2) r → Q r M1) : T_X5_pass g [.ref 0] M Q := by
  obtain ⟨s, k, hc, hm⟩ := h
  refine jC_pass hc k (fun n => q _ M ⟨_, rfl⟩ fun Q2 q2 => jM_pass hm k (fun _ => q2 M ⟨s, k, hc, hm⟩) (fun a => absurd n a)) (fun a M1 lo rc => q _ M1 ⟨_, rfl⟩ fun Q2 q2 => jM_pass (hm.lo lo) k (fun n => absurd n a) (fun _ M2 hi rm => q2 M2 ⟨_, k.pass a, rc.hi (k.pass a) hi, rm⟩))
theorem p_feed {g : WG} {M : MM} {x : Int32} {Q : Option Value → MM → Prop} (h : J M) (q : ∀ r M1, isI r → RDY (fun Q2 => T_X6_feed g [.ref 76, .int x] M1 Q2) r → Q r M1) : T_X5_feed g [.ref 0, .int x] M Q := by
  obtain ⟨s, k, hc, hm⟩ := h
  refine jC_feed hc k (fun n => q _ M ⟨_, rfl⟩ fun Q2 q2 => jM_feed hm k (fun _ => q2 M ⟨s, k, hc, hm⟩) (fun a _ => absurd a n) (fun a _ => absurd a n)) (fun a b => q _ M ⟨_, rfl⟩ fun Q2 q2 => jM_feed hm k (fun n => absurd a n) (fun _ _ => q2 M ⟨s, k, hc, hm⟩) (fun _ b' => absurd b (by omega))) (fun a b M1 lo rc => q _ M1 ⟨_, rfl⟩ fun Q2 q2 => jM_feed (hm.lo lo) k (fun n => absurd a n) (fun _ b' => absurd b' (by omega)) (fun _ _ M2 hi rm => q2 M2 ⟨_, k.toN b _, rc.hi (k.toN b _) hi, rm⟩))
theorem p_force {g : WG} {M : MM} {x : Int32} {Q : Option Value → MM → Prop} (h : J M) (q : ∀ r M1, isI r → RDY (fun Q2 => T_X6_force g [.ref 76, .int x] M1 Q2) r → Q r M1) : T_X5_force g [.ref 0, .int x] M Q := by
  obtain ⟨s, k, hc, hm⟩ := h
  have hT := k.wf.2.2.2.2
  refine jC_force hc k (fun n => q _ M ⟨_, rfl⟩ fun Q2 q2 => jM_force hm k (fun _ => q2 M ⟨s, k, hc, hm⟩) (fun t e ht => absurd ⟨by rw [e]; exact nI_pos' (by omega), by rw [e]; exact nI_lt ht (by omega)⟩ n)) (fun t e ht M1 lo rc => q _ M1 ⟨_, rfl⟩ fun Q2 q2 => jM_force (hm.lo lo) k (fun n => absurd ⟨by rw [e]; exact nI_pos' (by omega), by rw [e]; exact nI_lt ht (by omega)⟩ n) (fun t' e' ht' M2 hi rm => ?_))
  have := (nI_eq (a := t) (b := t') (by omega) (by omega)).mp (e.symm.trans e')
  subst this
  exact q2 M2 ⟨_, k.toR ht, rc.hi (k.toR ht) hi, rm⟩
theorem p_text {g : WG} {M : MM} {Q : Option Value → MM → Prop} (h : J M) (q : ∀ r M1, isI r → RDY (fun Q2 => T_X6_text g [.ref 76] M1 Q2) r → Q r M1) : T_X5_text g [.ref 0] M Q := by
  obtain ⟨s, k, hc, hm⟩ := h
  refine jC_text hc k (fun n => q _ M ⟨_, rfl⟩ fun Q2 q2 => jM_text6 hm k n (q2 M ⟨s, k, hc, hm⟩)) (fun h5 m S V i hr M1 lo rc => q _ M1 ⟨_, rfl⟩ fun Q2 q2 => jM_textF (hm.lo lo) k h5 hr fun M2 hi rm => q2 M2 ⟨_, k.toN (by decide) _, rc.hi (k.toN (by decide) _) hi, rm⟩) (fun h5 m S V cs hr M1 lo rc => q _ M1 ⟨_, rfl⟩ fun Q2 q2 => jM_textG (hm.lo lo) k h5 hr fun M2 hi rm => q2 M2 ⟨_, k.toT h5 cs, rc.hi (k.toT h5 cs) hi, rm⟩)
theorem p_image {g : WG} {M : MM} {Q : Option Value → MM → Prop} (h : J M) (q : ∀ r M1, isI r → RDY (fun Q2 => T_X6_image g [.ref 76] M1 Q2) r → Q r M1) : T_X5_image g [.ref 0] M Q := by
  obtain ⟨s, k, hc, hm⟩ := h
  exact jC_image hc k fun M1 lo rc => q _ M1 ⟨_, rfl⟩ fun Q2 q2 => jM_image (hm.lo lo) k fun M2 hi rm => q2 M2 ⟨_, k.toI, rc.hi k.toI hi, rm⟩
theorem p_back {g : WG} {M : MM} {Q : Option Value → MM → Prop} (h : J M) (q : ∀ r M1, isI r → RDY (fun Q2 => T_X6_back g [.ref 76] M1 Q2) r → Q r M1) : T_X5_back g [.ref 0] M Q := by
  obtain ⟨s, k, hc, hm⟩ := h
  cases e : s.im with
  | none => exact jC_back0 hc e (q _ M ⟨_, rfl⟩ fun Q2 q2 => jM_back0 hm e (q2 M ⟨s, k, hc, hm⟩))
  | some E => exact jC_back1 hc k e fun M1 lo rc => q _ M1 ⟨_, rfl⟩ fun Q2 q2 => jM_back1 (hm.lo lo) k e fun M2 hi rm => q2 M2 ⟨_, k.back e, rc.hi (k.back e) hi, rm⟩
theorem p_film {g : WG} {M : MM} {x n : Int32} {Q : Option Value → MM → Prop} (h : J M) (q : ∀ r M1, isI r → RDY (fun Q2 => T_X6_film g [.ref 76, .int x, .int n] M1 Q2) r → Q r M1) : T_X5_film g [.ref 0, .int x, .int n] M Q := by
  obtain ⟨s, k, hc, hm⟩ := h
  have eqi : ∀ {x : Int32} {a b : Nat}, x = nI a → x = nI b → a < 2 ^ 31 → b < 2 ^ 31 → a = b := fun h1 h2 h3 h4 => (nI_eq h3 h4).mp (h1.symm.trans h2)
  have ok : ∀ i k', i < 4 → k' ≤ 40 → SOK (filS s i k') := fun i k' hi hk => k.toS (Or.inr (by decide)) hk
  have yes : ∀ {x n : Int32} {i k' : Nat}, x = nI i → i < 4 → n = nI k' → k' ≤ 40 → (0 ≤ x ∧ x ≤ 3) ∧ (0 ≤ n ∧ n ≤ 40) := by
    intro x n i k' e1 h1 e2 h2
    subst e1
    subst e2
    exact ⟨⟨nI_pos' (by omega), (nI_leI (b := 3) (by omega) (by decide)).mpr (by omega)⟩, nI_pos' (by omega), (nI_leI (b := 40) (by omega) (by decide)).mpr h2⟩
  refine jC_film hc k (fun n' => q _ M ⟨_, rfl⟩ fun Q2 q2 => jM_film hm k (fun _ => q2 M ⟨s, k, hc, hm⟩) (fun i k' e1 h1 e2 h2 => absurd (yes e1 h1 e2 h2) n')) (fun i k' e1 h1 e2 h2 M1 lo rc => q _ M1 ⟨_, rfl⟩ fun Q2 q2 => jM_film (hm.lo lo) k (fun n' => absurd (yes e1 h1 e2 h2) n') (fun i' k'' e1' h1' e2' h2' M2 hi rm => ?_))
  have a1 := eqi e1 e1' (by omega) (by omega)
  have a2 := eqi e2 e2' (by omega) (by omega)
  subst a1
  subst a2
  exact q2 M2 ⟨_, ok i k' h1 h2, rc.hi (ok i k' h1 h2) hi, rm⟩
theorem nI_inj {x : Int32} {a b : Nat} (h1 : x = nI a) (h2 : x = nI b) (h3 : a < 2 ^ 31) (h4 : b < 2 ^ 31) : a = b := (nI_eq h3 h4).mp (h1.symm.trans h2)
theorem shA_ok {s : ST} (k : SOK s) {sh srt n : Int32} (h : shA sh srt n = 1) (i : Nat) : SOK (sheS s i srt (if srt < 0 then 0 else n)) := by
  unfold shA at h
  by_cases c : (0 ≤ sh ∧ sh ≤ 3) ∧ (-1 ≤ srt ∧ srt ≤ 2)
  · rw [if_neg (fun q => q c)] at h
    by_cases c2 : 0 ≤ srt ∧ n < 0
    · rw [if_pos c2] at h; exact absurd h (by decide)
    · rw [if_neg c2] at h
      by_cases c3 : 0 ≤ srt ∧ 40 < n
      · rw [if_pos c3] at h; exact absurd h (by decide)
      · by_cases c4 : srt < 0
        · rw [if_pos c4]
          refine k.toS (i := i) (n := 0) ?_ (by decide)
          left
          have h1 := c.2.1
          rw [i_le] at h1
          rw [i_lt] at c4
          apply Int32.toInt_inj.mp
          have e1 : (-1 : Int32).toInt = -1 := by decide
          have e0 : (0 : Int32).toInt = 0 := by decide
          rw [e1] at h1 ⊢
          rw [e0] at c4
          omega
        · rw [if_neg c4]
          have h0 := i_not_lt.mp c4
          have n0 : 0 ≤ n := i_not_lt.mp (fun q => c2 ⟨h0, q⟩)
          have n4 : n ≤ nI 40 := i_not_lt.mp (fun q => c3 ⟨h0, q⟩)
          obtain ⟨z, hz, e⟩ := isN_of (n := 40) (by decide) ⟨n0, n4⟩
          rw [e]
          exact k.toS (Or.inr h0) (by omega)
  · rw [if_pos c] at h; exact absurd h (by decide)
theorem p_sheet {g : WG} {M : MM} {sh srt n : Int32} {Q : Option Value → MM → Prop} (h : J M) (q : ∀ r M1, isI r → RDY (fun Q2 => T_X6_sheet g [.ref 76, .int sh, .int srt, .int n] M1 Q2) r → Q r M1) : T_X5_sheet g [.ref 0, .int sh, .int srt, .int n] M Q := by
  obtain ⟨s, k, hc, hm⟩ := h
  refine jC_sheet hc k (fun n' => q _ M ⟨_, rfl⟩ fun Q2 q2 => jM_sheet hm k (fun _ => q2 M ⟨s, k, hc, hm⟩) (fun a => absurd a n')) (fun a i e1 h1 M1 lo rc => q _ M1 ⟨_, rfl⟩ fun Q2 q2 => jM_sheet (hm.lo lo) k (fun n' => absurd a n') (fun _ i' e1' h1' M2 hi rm => ?_))
  have a1 := nI_inj e1 e1' (by omega) (by omega)
  subst a1
  exact q2 M2 ⟨_, shA_ok k a i, rc.hi (shA_ok k a i) hi, rm⟩
theorem p_cell {g : WG} {M : MM} {sh i v : Int32} {Q : Option Value → MM → Prop} (h : J M) (q : ∀ r M1, isI r → RDY (fun Q2 => T_X6_cell g [.ref 76, .int sh, .int i, .int v] M1 Q2) r → Q r M1) : T_X5_cell g [.ref 0, .int sh, .int i, .int v] M Q := by
  obtain ⟨s, k, hc, hm⟩ := h
  refine jC_cell hc k (fun n' => q _ M ⟨_, rfl⟩ fun Q2 q2 => jM_cell hm k (fun _ => q2 M ⟨s, k, hc, hm⟩) (fun a => absurd a n')) (fun a x y h1 h2 e1 e2 M1 lo rc => q _ M1 ⟨_, rfl⟩ fun Q2 q2 => jM_cell (hm.lo lo) k (fun n' => absurd a n') (fun _ x' y' h1' h2' e1' e2' M2 hi rm => ?_))
  have a1 := nI_inj e1 e1' (by omega) (by omega)
  have a2 := nI_inj e2 e2' (by omega) (by omega)
  subst a1
  subst a2
  exact q2 M2 ⟨_, k.toC _, rc.hi (k.toC _) hi, rm⟩
theorem p_copy {g : WG} {M : MM} {sh i ot j n : Int32} {Q : Option Value → MM → Prop} (h : J M) (q : ∀ r M1, isI r → RDY (fun Q2 => T_X6_copy g [.ref 76, .int sh, .int i, .int ot, .int j, .int n] M1 Q2) r → Q r M1) : T_X5_copy g [.ref 0, .int sh, .int i, .int ot, .int j, .int n] M Q := by
  obtain ⟨s, k, hc, hm⟩ := h
  refine jC_copy hc k (fun n' => q _ M ⟨_, rfl⟩ fun Q2 q2 => jM_copy hm k (fun _ => q2 M ⟨s, k, hc, hm⟩) (fun a => absurd n' a)) (fun a x y i' j' n' e1 e2 h1 h2 e3 e4 e5 h3 h4 M1 lo rc => q _ M1 ⟨_, rfl⟩ fun Q2 q2 => jM_copy (hm.lo lo) k (fun n' => absurd n' a) (fun _ x2 y2 i2 j2 n2 f1 f2 g1 g2 f3 f4 f5 g3 g4 M2 hi rm => ?_))
  have a1 := nI_inj e1 f1 (by omega) (by omega)
  have a2 := nI_inj e2 f2 (by omega) (by omega)
  have a3 := nI_inj e3 f3 (by omega) (by omega)
  have a4 := nI_inj e4 f4 (by omega) (by omega)
  have a5 := nI_inj e5 f5 (by omega) (by omega)
  subst a1
  subst a2
  subst a3
  subst a4
  subst a5
  exact q2 M2 ⟨_, k.toC _, rc.hi (k.toC _) hi, rm⟩
theorem p_seams {g : WG} {M : MM} {sh so fr n : Int32} {Q : Option Value → MM → Prop} (h : J M) (q : ∀ r M1, isI r → RDY (fun Q2 => T_X6_seams g [.ref 76, .int sh, .int so, .int fr, .int n] M1 Q2) r → Q r M1) : T_X5_seams g [.ref 0, .int sh, .int so, .int fr, .int n] M Q := by
  obtain ⟨s, k, hc, hm⟩ := h
  have ok : ∀ a n' fr', SOK (s.toD (smS s a n' fr').2) := fun a n' fr' => k.smk (smA_k k.wf k.n6)
  refine jC_seams hc k (fun n' => q _ M ⟨_, rfl⟩ fun Q2 q2 => jM_seams hm k (fun _ => q2 M ⟨s, k, hc, hm⟩) (fun a => absurd a n')) (fun a x y e1 h1 e2 h2 M1 lo rc => q _ M1 ⟨_, rfl⟩ fun Q2 q2 => jM_seams (hm.lo lo) k (fun n' => absurd a n') (fun _ x' y' e1' h1' e2' h2' M2 hi rm => ?_))
  have a1 := nI_inj e1 e1' (by omega) (by omega)
  have a2 := nI_inj e2 e2' (by omega) (by omega)
  subst a1
  subst a2
  exact q2 M2 ⟨_, ok _ _ _, rc.hi (ok _ _ _) hi, rm⟩

