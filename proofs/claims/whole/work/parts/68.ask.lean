/-! ===== the questions: both sides answer alike, and mean what they meant ===== -/
theorem dm_Z {M M' : MM} {n : Nat} (hs : Sm (YZ n) M M') (hn : dn (dm M) ≤ n) : dm M' = dm M := by
  funext f i
  rw [dm_n] at hn
  have e76 : ∀ j, j = 0 ∨ j = 2 ∨ j = 9 → M' 76 j = M 76 j := fun j hj => hs _ _ (by unfold YZ; omega)
  simp only [dm, e76 0 (by omega), e76 2 (by omega), e76 9 (by omega)]
  by_cases h0 : f = 0
  · simp only [h0, if_true, hs 77 i (by unfold YZ; omega)]
  · by_cases h7 : f < 7
    · simp only [h0, h7, if_true, if_false]
      split
      · next hi => exact hs _ _ (by unfold YZ; omega)
      · rfl
    · simp only [h0, h7, if_false]
theorem RM.tx {M M' : MM} (e85 : M' 85 = M 85) (e86 : M' 86 = M 86) (e87 : M' 87 = M 87) : xm M' = xm M ∧ (∀ t, mtx M t → mtx M' t) ∧ mb M' = mb M ∧ ml M' = ml M := by
  refine ⟨?_, fun t ht => ?_, ?_, ?_⟩
  · funext r p
    simp only [xm, mseg, mb, ml, e85, e86, e87]
  · simp only [mtx, mseg, mb, ml, e85, e86, e87] at ht ⊢
    exact ht
  · funext t p
    simp only [mb, e85]
  · funext t p
    simp only [ml, e86]
theorem idm_e {M M' : MM} {E : DV} (hE : idm M = E) (h39 : ∀ j, j = 39 ∨ j = 40 ∨ j = 41 → M' 76 j = M 76 j) (h97 : M' 97 = M 97) (h98 : M' 98 = M 98) (h78 : ∀ i, i < dn E → M' 78 i = M 78 i) : idm M' = E := by
  rw [← hE]
  have hd : dn (idm M) = (M 76 39).toNatClampNeg := rfl
  rw [← hE, hd] at h78
  funext f i
  simp only [idm, h39 39 (by omega), h39 40 (by omega), h39 41 (by omega), h97, h98]
  by_cases c : i < (M 76 39).toNatClampNeg
  · rw [h78 i c]
  · simp only [c, if_false]
/-- what a question of the model may write -/
theorem RM.q {Y : Nat → Nat → Prop} {M M' : MM} {s : ST} (h : RM M s) (k : SOK s) (hs : Sm Y M M') (y : ∀ a b, Y a b → YZ (dn s.D) a b) (hz : zM M') : RM M' s := by
  have hs := hs.mono y
  have n6 := k.n6
  have hd : dm M' = dm M := dm_Z hs (by rw [h.day]; exact Nat.le_refl _)
  obtain ⟨ex, et, eb, el⟩ := RM.tx (M := M) (M' := M') (funext fun j => hs _ _ (by unfold YZ; omega)) (funext fun j => hs _ _ (by unfold YZ; omega)) (funext fun j => hs _ _ (by unfold YZ; omega))
  have n : ∀ b, ¬ (b = 32 ∨ b = 36) → M' 76 b = M 76 b := fun b hb => hs _ _ (by unfold YZ; omega)
  refine ⟨hd.trans h.day, by rw [n 9 (by decide)]; exact h.rul, hz, fun t ht => et t (h.txt t ht), by rw [ex]; exact h.ag, by rw [n 12 (by decide)]; exact h.cnt, by rw [n 10 (by decide)]; exact h.len, ?_, ?_, fun i hi => ?_, fun q => by rw [n 38 (by decide)]; exact h.im0 q, fun E q => ?_⟩
  · exact fun j hj => (hs _ _ (by unfold YZ; omega)).trans (h.tape j hj)
  · rw [n 16 (by decide), eb, el]; exact h.cod
  · rw [hs 99 _ (by unfold YZ; omega), hs 100 _ (by unfold YZ; omega)]
    obtain ⟨a, b, c⟩ := h.sht i hi
    exact ⟨a, b, fun j hj => by rw [hs 101 _ (by unfold YZ; omega)]; exact c j hj⟩
  · obtain ⟨a, b, c, d⟩ := h.im1 E q
    have hE := (k.img E q).2.1
    refine ⟨by rw [n 38 (by decide)]; exact a, idm_e b (fun j hj => n j (by omega)) (funext fun j => hs _ _ (by unfold YZ; omega)) (funext fun j => hs _ _ (by unfold YZ; omega)) (fun i hi => hs _ _ (by unfold YZ; omega)), by rw [n 41 (by decide)]; exact c, fun i hi => by rw [hs 98 _ (by unfold YZ; omega)]; exact d i hi⟩
theorem YS_Zn {n : Nat} (hn : n ≤ 7) : ∀ a b, YS a b → YZ n a b := fun a b q => by unfold YS at q; unfold YZ; omega
theorem YL_Z' {n : Nat} : ∀ a b, YL a b → YZ n a b := fun a b q => by unfold YL at q; unfold YZ; omega
theorem YD_Z {n : Nat} : ∀ a b, YD a b → YZ n a b := fun a b q => by unfold YD at q; unfold YZ; omega
theorem YZ_hi {n : Nat} : ∀ a b, YZ n a b → 76 ≤ a := fun a b q => by unfold YZ at q; omega
theorem zM_Sn {M M' : MM} (hs : Sm YS M M') (h : zM M) : zM M' := fun s hs' => by rw [hs 83 s (by unfold YS; omega)]; exact h s hs'
theorem zM_D {M M' : MM} (hs : Sm YD M M') (h : zM M) : zM M' := zM_L hs (fun b => by unfold YD; omega) h
theorem jC_told {g : WG} {M : MM} {s : ST} {o w : Int32} {Q : Option Value → MM → Prop} (h : RC M s) (k : SOK s) (q : ∀ M', LO M M' → RC M' s → Q (some (.int (toldA s.X s.D o w))) M') : T_X5_told g [.ref 0, .int o, .int w] M Q := by
  refine ⟨o, w, rfl, h.ok k, fun M' hs => ?_⟩
  rw [h.day, toldA_e (h.eq k)]
  exact q M' (hs.LO fun a b z => YC_lo a b ((fun z => Or.inr z) z)) (h.q k hs (fun _ _ z => Or.inr z))
theorem jM_told {g : WG} {M : MM} {s : ST} {o w : Int32} {Q : Option Value → MM → Prop} (h : RM M s) (k : SOK s) (q : ∀ M', HI M M' → RM M' s → Q (some (.int (toldA s.X s.D o w))) M') : T_X6_told g [.ref 76, .int o, .int w] M Q := by
  refine ⟨o, w, rfl, h.ok k, fun M' hs => ?_⟩
  rw [h.day, toldA_e (h.eq k)]
  exact q M' (hs.HI fun a b z => YZ_hi (n := dn s.D) a b ((YL_Z') _ _ z)) (h.q k hs (YL_Z') (zM_YL hs h.z))
theorem jC_hours {g : WG} {M : MM} {s : ST} {w : Int32} {Q : Option Value → MM → Prop} (h : RC M s) (k : SOK s) (q : ∀ M', LO M M' → RC M' s → Q (some (.int (hrs s.X s.D w))) M') : T_X5_hours g [.ref 0, .int w] M Q := by
  refine ⟨w, rfl, h.ok k, fun M' hs => ?_⟩
  rw [h.day, hrs_e (h.eq k)]
  exact q M' (hs.LO fun a b z => YC_lo a b ((fun z => Or.inr z) z)) (h.q k hs (fun _ _ z => Or.inr z))
theorem jM_hours {g : WG} {M : MM} {s : ST} {w : Int32} {Q : Option Value → MM → Prop} (h : RM M s) (k : SOK s) (q : ∀ M', HI M M' → RM M' s → Q (some (.int (hrs s.X s.D w))) M') : T_X6_hours g [.ref 76, .int w] M Q := by
  refine ⟨w, rfl, h.ok k, fun M' hs => ?_⟩
  rw [h.day, hrs_e (h.eq k)]
  exact q M' (hs.HI fun a b z => YZ_hi (n := dn s.D) a b ((YL_Z') _ _ z)) (h.q k hs (YL_Z') (zM_YL hs h.z))
theorem jC_run {g : WG} {M : MM} {s : ST} {n w : Int32} {Q : Option Value → MM → Prop} (h : RC M s) (k : SOK s) (q : ∀ M', LO M M' → RC M' s → Q (some (.int (runA s.X s.D n w))) M') : T_X5_run g [.ref 0, .int n, .int w] M Q := by
  refine ⟨n, w, rfl, h.ok k, fun M' hs => ?_⟩
  rw [h.day, runA_e (h.eq k)]
  exact q M' (hs.LO fun a b z => YC_lo a b ((fun z => z) z)) (h.q k hs (fun _ _ z => z))
theorem jM_run {g : WG} {M : MM} {s : ST} {n w : Int32} {Q : Option Value → MM → Prop} (h : RM M s) (k : SOK s) (q : ∀ M', HI M M' → RM M' s → Q (some (.int (runA s.X s.D n w))) M') : T_X6_run g [.ref 76, .int n, .int w] M Q := by
  refine ⟨n, w, rfl, h.ok k, h.z, fun M' hs => ?_⟩
  rw [h.day, runA_e (h.eq k)]
  exact q M' (hs.HI fun a b z => YZ_hi (n := dn s.D) a b ((YS_Zn (by have := k.n6; omega)) _ _ z)) (h.q k hs (YS_Zn (by have := k.n6; omega)) (zM_Sn hs h.z))
theorem jC_cut {g : WG} {M : MM} {s : ST} {a n w : Int32} {Q : Option Value → MM → Prop} (h : RC M s) (k : SOK s) (q : ∀ M', LO M M' → RC M' s → Q (some (.int (cutA s.X s.D a n w))) M') : T_X5_cut g [.ref 0, .int a, .int n, .int w] M Q := by
  refine ⟨a, n, w, rfl, h.ok k, by rw [h.day]; exact k.n6, fun M' hs => ?_⟩
  rw [h.day, cutA_e (h.eq k)]
  exact q M' (hs.LO fun a b z => YC_lo a b ((fun z => z) z)) (h.q k hs (fun _ _ z => z))
theorem jM_cut {g : WG} {M : MM} {s : ST} {a n w : Int32} {Q : Option Value → MM → Prop} (h : RM M s) (k : SOK s) (q : ∀ M', HI M M' → RM M' s → Q (some (.int (cutA s.X s.D a n w))) M') : T_X6_cut g [.ref 76, .int a, .int n, .int w] M Q := by
  refine ⟨a, n, w, rfl, h.ok k, h.z, by rw [h.day]; exact k.n6, fun M' hs hz => ?_⟩
  rw [h.day] at hs; rw [h.day, cutA_e (h.eq k)]
  exact q M' (hs.HI fun a b z => YZ_hi (n := dn s.D) a b ((fun _ _ z => z) _ _ z)) (h.q k hs (fun _ _ z => z) (hz))
theorem jC_unpick {g : WG} {M : MM} {s : ST} {w : Int32} {Q : Option Value → MM → Prop} (h : RC M s) (k : SOK s) (q : ∀ M', LO M M' → RC M' s → Q (some (.int (unpA s.X s.D w))) M') : T_X5_unpick g [.ref 0, .int w] M Q := by
  refine ⟨w, rfl, h.ok k, fun M' hs => ?_⟩
  rw [h.day, unpA_e (h.eq k)]
  exact q M' (hs.LO fun a b z => YC_lo a b ((fun z => z) z)) (h.q k hs (fun _ _ z => z))
theorem jM_unpick {g : WG} {M : MM} {s : ST} {w : Int32} {Q : Option Value → MM → Prop} (h : RM M s) (k : SOK s) (q : ∀ M', HI M M' → RM M' s → Q (some (.int (unpA s.X s.D w))) M') : T_X6_unpick g [.ref 76, .int w] M Q := by
  refine ⟨w, rfl, h.ok k, h.z, fun M' hs hz => ?_⟩
  rw [h.day] at hs; rw [h.day, unpA_e (h.eq k)]
  exact q M' (hs.HI fun a b z => YZ_hi (n := dn s.D) a b ((fun _ _ z => z) _ _ z)) (h.q k hs (fun _ _ z => z) (hz))
theorem jC_thread {g : WG} {M : MM} {s : ST} {a n w : Int32} {Q : Option Value → MM → Prop} (h : RC M s) (k : SOK s) (q : ∀ M', LO M M' → RC M' s → Q (some (.int (thrA s.X s.D a n w))) M') : T_X5_thread g [.ref 0, .int a, .int n, .int w] M Q := by
  refine ⟨a, n, w, rfl, h.ok k, fun M' hs => ?_⟩
  rw [h.day, thrA_e (h.eq k)]
  exact q M' (hs.LO fun a b z => YC_lo a b ((fun z => z) z)) (h.q k hs (fun _ _ z => z))
theorem jM_thread {g : WG} {M : MM} {s : ST} {a n w : Int32} {Q : Option Value → MM → Prop} (h : RM M s) (k : SOK s) (q : ∀ M', HI M M' → RM M' s → Q (some (.int (thrA s.X s.D a n w))) M') : T_X6_thread g [.ref 76, .int a, .int n, .int w] M Q := by
  refine ⟨a, n, w, rfl, h.ok k, h.z, fun M' hs => ?_⟩
  rw [h.day, thrA_e (h.eq k)]
  exact q M' (hs.HI fun a b z => YZ_hi (n := dn s.D) a b ((YS_Zn (by have := k.n6; omega)) _ _ z)) (h.q k hs (YS_Zn (by have := k.n6; omega)) (zM_Sn hs h.z))
theorem jC_move {g : WG} {M : MM} {s : ST} {a w : Int32} {Q : Option Value → MM → Prop} (h : RC M s) (k : SOK s) (q : ∀ M', LO M M' → RC M' s → Q (some (.int (mvA s.X s.D a w))) M') : T_X5_move g [.ref 0, .int a, .int w] M Q := by
  refine ⟨a, w, rfl, h.ok k, fun M' hs => ?_⟩
  rw [h.day, mvA_e (h.eq k)]
  exact q M' (hs.LO fun a b z => YC_lo a b ((fun z => z) z)) (h.q k hs (fun _ _ z => z))
theorem jM_move {g : WG} {M : MM} {s : ST} {a w : Int32} {Q : Option Value → MM → Prop} (h : RM M s) (k : SOK s) (q : ∀ M', HI M M' → RM M' s → Q (some (.int (mvA s.X s.D a w))) M') : T_X6_move g [.ref 76, .int a, .int w] M Q := by
  refine ⟨a, w, rfl, h.ok k, fun M' hs => ?_⟩
  rw [h.day, mvA_e (h.eq k)]
  exact q M' (hs.HI fun a b z => YZ_hi (n := dn s.D) a b ((YL_Z') _ _ z)) (h.q k hs (YL_Z') (zM_YL hs h.z))
theorem jC_chance {g : WG} {M : MM} {s : ST} {a n w : Int32} {Q : Option Value → MM → Prop} (h : RC M s) (k : SOK s) (q : ∀ M', LO M M' → RC M' s → Q (some (.long (chA s.X s.D a n w))) M') : T_X5_chance g [.ref 0, .int a, .int n, .int w] M Q := by
  refine ⟨a, n, w, rfl, h.ok k, fun M' hs => ?_⟩
  rw [h.day, chA_e (h.eq k)]
  exact q M' (hs.LO fun a b z => YC_lo a b ((fun z => z) z)) (h.q k hs (fun _ _ z => z))
theorem jM_chance {g : WG} {M : MM} {s : ST} {a n w : Int32} {Q : Option Value → MM → Prop} (h : RM M s) (k : SOK s) (q : ∀ M', HI M M' → RM M' s → Q (some (.long (chA s.X s.D a n w))) M') : T_X6_chance g [.ref 76, .int a, .int n, .int w] M Q := by
  refine ⟨a, n, w, rfl, h.ok k, fun M' hs => ?_⟩
  rw [h.day, chA_e (h.eq k)]
  exact q M' (hs.HI fun a b z => YZ_hi (n := dn s.D) a b ((YD_Z) _ _ z)) (h.q k hs (YD_Z) (zM_D hs h.z))
theorem jC_drawn {g : WG} {M : MM} {s : ST} {x : Int32} {Q : Option Value → MM → Prop} (h : RC M s) (k : SOK s) (q : ∀ M', LO M M' → RC M' s → Q (some (.int (wor s.X (drwD s.D x)))) M') : T_X5_drawn g [.ref 0, .int x] M Q := by
  refine ⟨x, rfl, h.ok k, fun M' hs => ?_⟩
  rw [h.day, wor_e ((h.eq k).c drwD_72)]
  exact q M' (hs.LO YC_lo) (h.q k hs fun _ _ z => z)
theorem jM_drawn {g : WG} {M : MM} {s : ST} {x : Int32} {Q : Option Value → MM → Prop} (h : RM M s) (k : SOK s) (q : ∀ M', HI M M' → RM M' s → Q (some (.int (wor s.X (drwD s.D x)))) M') : T_X6_drawn g [.ref 76, .int x] M Q := by
  refine ⟨x, rfl, h.ok k, fun M' hs => ?_⟩
  rw [h.day, wor_e ((h.eq k).c drwD_72)]
  exact q M' (hs.HI fun a b z => YZ_hi (n := dn s.D) a b (YD_Z _ _ z)) (h.q k hs YD_Z (zM_D hs h.z))
theorem jC_taken {g : WG} {M : MM} {s : ST} {x y : Int32} {Q : Option Value → MM → Prop} (h : RC M s) (k : SOK s) (q : Q (some (.int (takA s.D x y))) M) : T_X5_taken g [.ref 0, .int x, .int y] M Q := ⟨x, y, rfl, h.ok k, by rw [h.day]; exact q⟩
theorem jM_taken {g : WG} {M : MM} {s : ST} {x y : Int32} {Q : Option Value → MM → Prop} (h : RM M s) (k : SOK s) (q : Q (some (.int (takA s.D x y))) M) : T_X6_taken g [.ref 76, .int x, .int y] M Q := ⟨x, y, rfl, h.ok k, by rw [h.day]; exact q⟩
/-- the rule's own number -/
theorem RC.rul {M : MM} {s : ST} (h : RC M s) (k : SOK s) : ∃ t, t < s.T ∧ s.D 7 2 = nI (8 + 4 * t) ∧ M 40 4 = nI (8 + 4 * t) := by
  obtain ⟨t, ht, e⟩ := k.wf.2.2.2.1
  exact ⟨t, ht, e, by rw [← e, ← h.day]; rfl⟩
def ruN (s : ST) : Int32 := nI ((rix s.D - 8) / 4)
theorem RC.ruN {M : MM} {s : ST} (h : RC M s) (k : SOK s) : ∃ t, t < s.T ∧ t < 6 ∧ M 40 4 = nI (8 + 4 * t) ∧ ruN s = nI t := by
  obtain ⟨t, ht, e, e4⟩ := h.rul k
  have h6 := k.wf.2.2.2.2
  refine ⟨t, ht, by omega, e4, ?_⟩
  unfold Jvm.Pilot.CSewsUpTheAfternoonLaw_law_r7266_8043a9.ruN rix
  rw [e, nI_clamp (by omega), show (8 + 4 * t - 8) / 4 = t by omega]
theorem RM.ruN {M : MM} {s : ST} (h : RM M s) (k : SOK s) : M 76 9 = ruN s := by
  obtain ⟨t, ht, e9⟩ := h.rul
  have h6 := k.wf.2.2.2.2
  unfold Jvm.Pilot.CSewsUpTheAfternoonLaw_law_r7266_8043a9.ruN rix
  rw [← h.day, dm_72, e9, nI_clamp (show t < 2 ^ 31 by omega), nI_clamp (show 8 + 4 * t < 2 ^ 31 by omega), show (8 + 4 * t - 8) / 4 = t by omega]
theorem jC_count {g : WG} {M : MM} {s : ST} {w : Int32} {Q : Option Value → MM → Prop} (h : RC M s) (k : SOK s) (q : Q (some (.int (cotA s.D (nI s.T) (nI s.n) (ruN s) w))) M) : T_X5_count g [.ref 0, .int w] M Q := by
  obtain ⟨t, ht, h6, e4, er⟩ := h.ruN k
  refine ⟨w, t, rfl, h.ok k, e4, h6, ?_⟩
  rw [h.day, h.cnt, h.len, h.num t h6, ← er]
  exact q
theorem jM_count {g : WG} {M : MM} {s : ST} {w : Int32} {Q : Option Value → MM → Prop} (h : RM M s) (k : SOK s) (q : ∀ M', HI M M' → RM M' s → Q (some (.int (cotA s.D (nI s.T) (nI s.n) (ruN s) w))) M') : T_X6_count g [.ref 76, .int w] M Q := by
  refine ⟨w, rfl, h.ok k, fun M' hs => ?_⟩
  rw [h.day, h.cnt, h.len, h.ruN k]
  exact q M' (hs.HI fun a b z => YZ_hi (n := dn s.D) a b (YL_Z' _ _ z)) (h.q k hs YL_Z' (zM_YL hs h.z))

