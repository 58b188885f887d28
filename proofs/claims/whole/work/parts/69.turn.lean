/-! ===== the changes of the day: both sides alike ===== -/
def ST.toD (s : ST) (D' : DV) : ST := (D', s.2)
theorem RC.toD {M M' : MM} {s : ST} {D' : DV} (h : RC M s) (k : SOK s) (hs : Sm (XD 40) M M') (hd : dv M' 40 = D') : RC M' (s.toD D') := by
  have hT := k.wf.2.2.2.2
  have n : ∀ a b, ¬ (40 ≤ a ∧ a < 52) → ¬ (8 ≤ a ∧ a < 32 ∧ a % 4 = 3) → M' a b = M a b := fun a b h1 h2 => hs a b (by unfold XD isPile; omega)
  have x : ∀ t, t < 6 → xc M' (8 + 4 * t) = xc M (8 + 4 * t) ∧ (txOK M (8 + 4 * t) → txOK M' (8 + 4 * t)) := fun t ht => xc_D hs D40 ht
  refine ⟨hd, fun t ht => (x t (Nat.lt_of_lt_of_le ht hT)).2 (h.txt t ht), fun t ht p hp => ?_, by rw [n _ _ (by omega) (by omega)]; exact h.cnt, fun t ht => by rw [n _ _ (by omega) (by omega)]; exact h.num t ht, by rw [n _ _ (by omega) (by omega)]; exact h.len, ?_, fun i hi => ?_, fun q => by rw [n _ _ (by omega) (by omega)]; exact h.im0 q, fun E q => ?_⟩
  · rw [(x t (Nat.lt_of_lt_of_le ht hT)).1]; exact h.ag t ht p hp
  · exact fun j hj => (n _ _ (by omega) (by omega)).trans (h.tape j hj)
  · obtain ⟨a, b, c⟩ := h.sht i hi
    exact ⟨by rw [n _ _ (by omega) (by omega)]; exact a, by rw [n _ _ (by omega) (by omega)]; exact b, fun j hj => by rw [n _ _ (by omega) (by omega)]; exact c j hj⟩
  · obtain ⟨a, b⟩ := h.im1 E q
    refine ⟨by rw [n _ _ (by omega) (by omega)]; exact a, ?_⟩
    have hE : dn (dv M 64) ≤ 7 := by rw [b]; exact (k.img E q).1.2.1
    rw [← b]
    exact dv_sm (Y := XD 40) hs (fun j => by unfold XD isPile; omega) (fun j _ => by unfold XD isPile; omega) (fun s j hs => by unfold XD isPile; omega) hE
def YKt (a b : Nat) : Prop := (77 ≤ a ∧ a ≤ 83) ∨ (a = 76 ∧ (b = 0 ∨ b = 2 ∨ b = 9)) ∨ (89 ≤ a ∧ a ≤ 92)
theorem RM.toD {Y : Nat → Nat → Prop} {M M' : MM} {s : ST} {D' : DV} (h : RM M s) (hs : Sm Y M M') (y : ∀ a b, Y a b → YKt a b) (hd : dm M' = D') (hz : zM M') (hr : ∃ t, t < s.T ∧ M' 76 9 = nI t) (h78 : ∀ E, s.im = some E → ∀ i, i < dn E → M' 78 i = M 78 i) : RM M' (s.toD D') := by
  have hs := hs.mono y
  obtain ⟨ex, et, eb, el⟩ := RM.tx (M := M) (M' := M') (funext fun j => hs _ _ (by unfold YKt; omega)) (funext fun j => hs _ _ (by unfold YKt; omega)) (funext fun j => hs _ _ (by unfold YKt; omega))
  have n : ∀ b, ¬ (b = 0 ∨ b = 2 ∨ b = 9) → M' 76 b = M 76 b := fun b hb => hs _ _ (by unfold YKt; omega)
  refine ⟨hd, hr, hz, fun t ht => et t (h.txt t ht), by rw [ex]; exact h.ag, by rw [n 12 (by decide)]; exact h.cnt, by rw [n 10 (by decide)]; exact h.len, ?_, ?_, fun i hi => ?_, fun q => by rw [n 38 (by decide)]; exact h.im0 q, fun E q => ?_⟩
  · exact fun j hj => (hs _ _ (by unfold YKt; omega)).trans (h.tape j hj)
  · rw [n 16 (by decide), eb, el]; exact h.cod
  · rw [hs 99 _ (by unfold YKt; omega), hs 100 _ (by unfold YKt; omega)]
    obtain ⟨a, b, c⟩ := h.sht i hi
    exact ⟨a, b, fun j hj => by rw [hs 101 _ (by unfold YKt; omega)]; exact c j hj⟩
  · obtain ⟨a, b, c, d⟩ := h.im1 E q
    refine ⟨by rw [n 38 (by decide)]; exact a, idm_e b (fun j hj => n j (by omega)) (funext fun j => hs _ _ (by unfold YKt; omega)) (funext fun j => hs _ _ (by unfold YKt; omega)) (h78 E q), by rw [n 41 (by decide)]; exact c, fun i hi => by rw [hs 98 _ (by unfold YKt; omega)]; exact d i hi⟩
theorem SOK.toD {s : ST} {D' : DV} (k : SOK s) (hw : wfD D' s.T) (h6 : dn D' ≤ 6) (hm : dn s.D ≤ dn D') (hd : isN (D' 7 1) 1000) : SOK (s.toD D') :=
  ⟨hw, h6, k.T1, hd, k.tape, k.sort, k.size, fun E q => by obtain ⟨a, b, c⟩ := k.img E q; exact ⟨a, Nat.le_trans b hm, c⟩⟩
theorem XD_lo : ∀ a b, XD 40 a b → a < 76 := fun a b q => by unfold XD isPile at q; omega
theorem YKt_hi : ∀ a b, YKt a b → 76 ≤ a := fun a b q => by unfold YKt at q; omega
/-! set -/
theorem isFit_N {w v : Int32} (h : isFitA w v) : (w = 0 → isN v 1000) ∧ (w = 2 → isN v 10) ∧ (w = 3 → isN v 10000) ∧ (¬ w = 0 → ¬ w = 1 → ¬ w = 2 → ¬ w = 3 → v = 0 ∨ v = 1) := by
  rcases h with ⟨rfl, h⟩ | ⟨rfl, h⟩ | ⟨rfl, h⟩ | ⟨rfl, h⟩ | ⟨a, b, c, d, h⟩
  · exact ⟨fun _ => isN_of (n := 999) (by decide) h, fun q => absurd q (by decide), fun q => absurd q (by decide), fun q => absurd rfl q⟩
  · exact ⟨fun q => absurd q (by decide), fun q => absurd q (by decide), fun q => absurd q (by decide), fun _ q => absurd rfl q⟩
  · exact ⟨fun q => absurd q (by decide), fun _ => isN_of (n := 9) (by decide) h, fun q => absurd q (by decide), fun _ _ q => absurd rfl q⟩
  · exact ⟨fun q => absurd q (by decide), fun q => absurd q (by decide), fun _ => isN_of (n := 9999) (by decide) h, fun _ _ _ q => absurd rfl q⟩
  · refine ⟨fun q => absurd q a, fun q => absurd q c, fun q => absurd q d, fun _ _ _ _ => ?_⟩
    obtain ⟨k, hk, e⟩ := isN_of (n := 1) (by decide) h
    have : k = 0 ∨ k = 1 := by omega
    rcases this with rfl | rfl
    · exact Or.inl e
    · exact Or.inr e
theorem wfD_0 {D : DV} {T k : Nat} {x : Int32} (h : wfD D T) : wfD (upF D 0 k x) T := by
  refine ⟨h.1, h.2.1, fun s hs => ?_, h.2.2.2⟩
  have e : ∀ f i, ¬ f = 0 → upF D 0 k x f i = D f i := fun f i hf => upF_ne hf
  have := h.2.2.1 s hs
  unfold wfS fi la at this ⊢
  rw [e _ _ (by decide), e _ _ (by decide), e _ _ (by decide), e _ _ (by decide), e _ _ (by decide), e _ _ (by decide)]
  exact this
theorem wfD_71 {D : DV} {T : Nat} {x : Int32} (h : wfD D T) : wfD (upF D 7 1 x) T := by
  have e : ∀ f i, ¬ f = 7 → upF D 7 1 x f i = D f i := fun f i hf => upF_ne hf
  have e0 : upF D 7 1 x 7 0 = D 7 0 := upF_nk (by decide)
  have e2 : upF D 7 1 x 7 2 = D 7 2 := upF_nk (by decide)
  have en : dn (upF D 7 1 x) = dn D := by unfold dn; rw [e0]
  refine ⟨by rw [en, e0]; exact h.1, by rw [en]; exact h.2.1, fun s hs => ?_, by rw [e2]; exact h.2.2.2.1, h.2.2.2.2⟩
  rw [en] at hs
  have := h.2.2.1 s hs
  unfold wfS fi la at this ⊢
  rw [e _ _ (by decide), e _ _ (by decide), e _ _ (by decide), e _ _ (by decide), e _ _ (by decide), e _ _ (by decide)]
  exact this
theorem SOK.set {s : ST} (k : SOK s) {w o v : Int32} (hf : isFitA w v) : SOK (s.toD (setD s.D w o v)) := by
  obtain ⟨f0, f2, f3, f4⟩ := isFit_N hf
  have hw := k.wf
  have key : wfD (setD s.D w o v) s.T ∧ setD s.D w o v 7 0 = s.D 7 0 ∧ isN (setD s.D w o v 7 1) 1000 := by
    unfold setD
    split
    · next c => exact ⟨wfD_71 hw, upF_nk (by decide), by rw [upF_s]; exact f0 c⟩
    · split
      · exact ⟨wfD_0 hw, upF_ne (by decide), by rw [upF_ne (by decide)]; exact k.date⟩
      · split
        · next c => exact ⟨wfD_f hw (by decide) (by decide) (by decide) (fun q => absurd q (by decide)) (fun _ => f2 c) (fun q => absurd q (by decide)), upF_ne (by decide), by rw [upF_ne (by decide)]; exact k.date⟩
        · split
          · next c => exact ⟨wfD_up5 hw (f3 c), upF_ne (by decide), by rw [upF_ne (by decide)]; exact k.date⟩
          · next a b c d => exact ⟨wfD_up6 hw (f4 a b c d), upF_ne (by decide), by rw [upF_ne (by decide)]; exact k.date⟩
  have en : dn (setD s.D w o v) = dn s.D := by unfold dn; rw [key.2.1]
  exact k.toD key.1 (by rw [en]; exact k.n6) (by rw [en]; exact Nat.le_refl _) key.2.2
theorem jC_set {g : WG} {M : MM} {s : ST} {w o v : Int32} {Q : Option Value → MM → Prop} (h : RC M s) (k : SOK s) (q1 : ¬ (isOfN (dn s.D) w o ∧ isFitA w v) → Q (some (.int (-1000))) M) (q2 : isOfN (dn s.D) w o → isFitA w v → ∀ M', LO M M' → RC M' (s.toD (setD s.D w o v)) → Q (some (.int (getA s.D w o))) M') : T_X5_set g [.ref 0, .int w, .int o, .int v] M Q := by
  refine ⟨w, o, v, rfl, h.ok k, ?_, ?_⟩ <;> rw [h.day]
  · exact q1
  · exact fun a b M' hs hd => q2 a b M' (hs.LO XD_lo) (h.toD k hs hd)
theorem jM_set {g : WG} {M : MM} {s : ST} {w o v : Int32} {Q : Option Value → MM → Prop} (h : RM M s) (k : SOK s) (q1 : ¬ (isOfN (dn s.D) w o ∧ isFitA w v) → Q (some (.int (-1000))) M) (q2 : isOfN (dn s.D) w o → isFitA w v → ∀ M', HI M M' → RM M' (s.toD (setD s.D w o v)) → Q (some (.int (getA s.D w o))) M') : T_X6_set g [.ref 76, .int w, .int o, .int v] M Q := by
  refine ⟨w, o, v, rfl, h.ok k, h.z, ?_, ?_⟩ <;> rw [h.day]
  · exact q1
  · exact fun a b M' hs hd hz => q2 a b M' (hs.HI fun a b q => by omega) (h.toD hs (fun a b q => by unfold YKt; omega) hd hz (by rw [hs 76 9 (by omega)]; exact h.rul) (fun E _ i _ => hs _ _ (by omega)))
/-! seam -/
theorem SOK.seam {s : ST} (k : SOK s) {kd nu e : Int32} (hf : seamOK kd nu e) (hn : dn s.D < 6) : SOK (s.toD (addD s.D kd nu (e / 100) (e - e / 100 * 100))) := by
  have := wfD_sm (k := kd) (n := nu) (e := e) k.wf k.n6
  unfold smE at this
  rw [if_pos (smB_iff.mpr ⟨hf, hn⟩)] at this
  refine k.toD this.1 this.2 (by rw [dn_addD k.n6]; omega) ?_
  have : addD s.D kd nu (e / 100) (e - e / 100 * 100) 7 1 = s.D 7 1 := by simp [addD]
  rw [this]; exact k.date
theorem jC_seam {g : WG} {M : MM} {s : ST} {kd nu e : Int32} {Q : Option Value → MM → Prop} (h : RC M s) (k : SOK s) (q1 : ¬ seamOK kd nu e → Q (some (.int (-2))) M) (q2 : seamOK kd nu e → dn s.D = 6 → Q (some (.int (-4))) M) (q3 : seamOK kd nu e → dn s.D < 6 → ∀ M', LO M M' → RC M' (s.toD (addD s.D kd nu (e / 100) (e - e / 100 * 100))) → Q (some (.int (nI (dn s.D)))) M') : T_X5_seam g [.ref 0, .int kd, .int nu, .int e] M Q := by
  refine ⟨kd, nu, e, rfl, h.ok k, ?_, q1, ?_, ?_⟩ <;> rw [h.day]
  · exact k.n6
  · exact q2
  · exact fun a b M' hs hd => q3 a b M' (hs.LO XD_lo) (h.toD k hs hd)
theorem jM_seam {g : WG} {M : MM} {s : ST} {kd nu e : Int32} {Q : Option Value → MM → Prop} (h : RM M s) (k : SOK s) (q1 : ¬ seamOK kd nu e → Q (some (.int (-2))) M) (q2 : seamOK kd nu e → dn s.D = 6 → Q (some (.int (-4))) M) (q3 : seamOK kd nu e → dn s.D < 6 → ∀ M', HI M M' → RM M' (s.toD (addD s.D kd nu (e / 100) (e - e / 100 * 100))) → Q (some (.int (nI (dn s.D)))) M') : T_X6_seam g [.ref 76, .int kd, .int nu, .int e] M Q := by
  refine ⟨kd, nu, e, rfl, h.ok k, h.z, ?_, q1, ?_, ?_⟩ <;> rw [h.day]
  · exact k.n6
  · exact q2
  · exact fun a b M' hs hd hz => q3 a b M' (hs.HI fun a b q => by omega) (h.toD hs (fun a b q => by unfold YKt; omega) hd hz (by rw [hs 76 9 (by omega)]; exact h.rul) (fun E q i hi => hs _ _ (by have := (k.img E q).2.1; omega)))
/-! pass -/
theorem SOK.pass {s : ST} (k : SOK s) (hd : ¬ s.D 7 1 = 999) : SOK (s.toD (pasD s.X s.D)) := by
  refine k.toD (wfD_pas k.wf) (by rw [dn_pas]; exact k.n6) (by rw [dn_pas]; exact Nat.le_refl _) ?_
  obtain ⟨d, h1, h2⟩ := k.date
  have e : pasD s.X s.D 7 1 = s.D 7 1 + 1 := by
    unfold pasD
    rw [dayD_eq, upF_s, brn_ne (by decide), wr1_ne (by decide)]
  rw [e, h2, nI_1]
  exact ⟨d + 1, by have : ¬ d = 999 := fun q => hd (by rw [h2, q]; rfl); omega, rfl⟩
theorem dat_999 {s : ST} (k : SOK s) : s.D 7 1 < 999 ↔ ¬ s.D 7 1 = 999 := by
  obtain ⟨d, h1, h2⟩ := k.date
  rw [h2, show (999 : Int32) = nI 999 from rfl, nI_ltI (by omega) (by decide), nI_eq (by omega) (by decide)]
  omega
theorem jC_pass {g : WG} {M : MM} {s : ST} {Q : Option Value → MM → Prop} (h : RC M s) (k : SOK s) (q1 : s.D 7 1 = 999 → Q (some (.int (-3))) M) (q2 : ¬ s.D 7 1 = 999 → ∀ M', LO M M' → RC M' (s.toD (pasD s.X s.D)) → Q (some (.int (pasB s.X s.D))) M') : T_X5_pass g [.ref 0] M Q := by
  have e : M 40 5 = s.D 7 1 := by rw [← h.day]; rfl
  refine ⟨rfl, h.ok k, ?_, ?_⟩ <;> rw [e, dat_999 k]
  · exact fun q => q1 (Decidable.not_not.mp q)
  · intro a M' hs hd
    rw [h.day, pasD_e (h.eq k)] at hd
    rw [h.day, pasB_e (h.eq k)]
    exact q2 a M' (hs.LO XD_lo) (h.toD k hs hd)

