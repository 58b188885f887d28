/-! ===== cell, copy, tells, image, back, seams ===== -/
theorem celA_c {f f' v v' : Nat → Int32} (hf : ∀ a, a < 4 → f' a = f a) (hv : ∀ a, a < 4 → v' a = v a) (sh i : Int32) : celA f' v' sh i = celA f v sh i := by
  unfold celA
  by_cases c : 0 ≤ sh ∧ sh ≤ 3
  · obtain ⟨a, ha, rfl⟩ := sh_4 c
    rw [nI_clamp (by omega), hf a ha, hv a ha]
  · rw [if_pos c, if_pos c]
theorem copA_c {f f' v v' : Nat → Int32} (hf : ∀ a, a < 4 → f' a = f a) (hv : ∀ a, a < 4 → v' a = v a) (sh i ot j n : Int32) : copA f' v' sh i ot j n = copA f v sh i ot j n := by
  unfold copA
  by_cases c : (0 ≤ sh ∧ sh ≤ 3) ∧ (0 ≤ ot ∧ ot ≤ 3)
  · obtain ⟨a, ha, rfl⟩ := sh_4 c.1
    obtain ⟨b, hb, rfl⟩ := sh_4 c.2
    rw [nI_clamp (show a < 2 ^ 31 by omega), nI_clamp (show b < 2 ^ 31 by omega), hf a ha, hv a ha, hf b hb, hv b hb]
  · rw [if_pos c, if_pos c]
theorem smC_c {f f' : Nat → Int32} (hf : ∀ a, a < 4 → f' a = f a) (sh so n : Int32) : smC f' sh so n = smC f sh so n := by
  unfold smC
  by_cases c : ((0 ≤ sh ∧ sh ≤ 3) ∧ (0 ≤ so ∧ so ≤ 2)) ∧ (0 ≤ n ∧ n ≤ 6)
  · obtain ⟨a, ha, rfl⟩ := sh_4 c.1.1
    rw [nI_clamp (by omega), hf a ha]
  · rw [if_pos c, if_pos c]
theorem wrg_c {X : XV} {D : DV} {c c' : Nat → Int32} : ∀ m i, (∀ j, j < i + m → c' j = c j) → wrg X D c' m i = wrg X D c m i
  | 0, _, _ => rfl
  | m + 1, i, h => by simp only [wrg]; rw [wrg_c m (i + 1) (fun j hj => h j (by omega)), h i (by omega)]
theorem telN_c {X : XV} {D : DV} {T : Nat} {c c' : Nat → Int32} {n : Nat} (h : ∀ j, j < n → c' j = c j) (k : Nat) : telN X D T c' n k = telN X D T c n k := by
  have w : ∀ D : DV, wrg X D c' n 0 = wrg X D c n 0 := fun D => wrg_c n 0 (fun j hj => h j (by omega))
  have e : ∀ F : Nat → DV, soB X F c' n = soB X F c n := fun F => by funext v; unfold soB; rw [w]
  unfold telN
  simp only [w, e]
theorem telA_c {X : XV} {D : DV} {T : Nat} {f f' v v' : Nat → Int32} {c c' : Nat → Nat → Int32} (hf : ∀ a, a < 4 → f' a = f a) (hv : ∀ a, a < 4 → v' a = v a) (h40 : ∀ a, a < 4 → ∃ n, n ≤ 40 ∧ v a = nI n) (hc : ∀ a, a < 4 → ∀ j, j < 40 → c' a j = c a j) (sh w : Int32) : telA X D T f' v' c' sh w = telA X D T f v c sh w := by
  unfold telA
  by_cases g : 0 ≤ sh ∧ sh ≤ 3
  · obtain ⟨a, ha, rfl⟩ := sh_4 g
    obtain ⟨n, hn, e⟩ := h40 a ha
    rw [nI_clamp (show a < 2 ^ 31 by omega), hf a ha, hv a ha, e, nI_clamp (show n < 2 ^ 31 by omega), telN_c (c := c a) (c' := c' a) (fun j hj => hc a ha j (by omega))]
  · rw [if_pos g, if_pos g]
theorem jC_tells {g : WG} {M : MM} {s : ST} {sh w : Int32} {Q : Option Value → MM → Prop} (h : RC M s) (k : SOK s) (q : ∀ M', LO M M' → RC M' s → Q (some (.int (telA s.X s.D s.T s.srt s.siz s.cel sh w))) M') : T_X5_tells g [.ref 0, .int sh, .int w] M Q := by
  refine ⟨sh, w, s.T, rfl, by rw [h.day]; exact k.wf, h.txt, h.cnt, fun i hi => ?_, fun i hi => ?_, fun M' hs => ?_⟩
  · rw [(h.sht i hi).2.1]; exact k.size i hi
  · rw [(h.sht i hi).1]; exact k.sort i hi
  · rw [h.day, telA_e h.ag k.wf, telA_c (f := s.srt) (v := s.siz) (c := s.cel) (fun a ha => (h.sht a ha).1) (fun a ha => (h.sht a ha).2.1) k.size (fun a ha j hj => (h.sht a ha).2.2 j hj)]
    exact q M' (hs.LO YC_lo) (h.q k hs fun _ _ z => z)
theorem jM_tells {g : WG} {M : MM} {s : ST} {sh w : Int32} {Q : Option Value → MM → Prop} (h : RM M s) (k : SOK s) (q : ∀ M', HI M M' → RM M' s → Q (some (.int (telA s.X s.D s.T s.srt s.siz s.cel sh w))) M') : T_X6_tells g [.ref 76, .int sh, .int w] M Q := by
  refine ⟨sh, w, s.T, rfl, h.ok k, h.z, h.cnt, by rw [h.day]; exact k.wf, h.txt, fun i hi => ?_, fun M' hs => ?_⟩
  · rw [(h.sht i hi).2.1]; exact k.size i hi
  · rw [h.day, telA_e h.ag k.wf, telA_c (f := s.srt) (v := s.siz) (c := s.cel) (fun a ha => (h.sht a ha).1) (fun a ha => (h.sht a ha).2.1) k.size (fun a ha j hj => (h.sht a ha).2.2 j hj)]
    exact q M' (hs.HI fun a b z => YZ_hi (n := dn s.D) a b (YS_Zn (by have := k.n6; omega) _ _ z)) (h.q k hs (YS_Zn (by have := k.n6; omega)) (zM_Sn hs h.z))
/-! image and back -/
def ST.toI (s : ST) : ST := (s.D, s.T, s.X, s.n, s.B, s.srt, s.siz, s.cel, some s.D)
theorem SOK.toI {s : ST} (k : SOK s) : SOK s.toI := ⟨k.wf, k.n6, k.T1, k.date, k.tape, k.sort, k.size, fun E q => by
  have e : s.D = E := Option.some.inj q
  rw [← e]
  exact ⟨k.wf, Nat.le_refl _, k.date⟩⟩
theorem jC_image {g : WG} {M : MM} {s : ST} {Q : Option Value → MM → Prop} (h : RC M s) (k : SOK s) (q : ∀ M', LO M M' → RC M' s.toI → Q (some (.int (s.D 7 0))) M') : T_X5_image g [.ref 0] M Q := by
  refine ⟨rfl, h.ok k, fun M' hs e7 ed => ?_⟩
  have e6 : M 40 6 = s.D 7 0 := by rw [← h.day]; rfl
  rw [e6]
  have hT := k.wf.2.2.2.2
  have n : ∀ a b, ¬ (64 ≤ a ∧ a < 76) → ¬ (8 ≤ a ∧ a < 32 ∧ a % 4 = 3) → ¬ (a = 0 ∧ b = 7) → M' a b = M a b := fun a b h1 h2 h3 => hs a b (by unfold XD isPile; omega)
  have x : ∀ t, t < 6 → xc M' (8 + 4 * t) = xc M (8 + 4 * t) ∧ (txOK M (8 + 4 * t) → txOK M' (8 + 4 * t)) := fun t ht => xc_sm hs (fun j => by unfold XD isPile; omega) (fun j => by unfold XD isPile; omega)
  refine q M' (hs.LO fun a b q => by unfold XD isPile at q; omega) ⟨?_, fun t ht => (x t (Nat.lt_of_lt_of_le ht hT)).2 (h.txt t ht), fun t ht p hp => ?_, by rw [n _ _ (by omega) (by omega) (by omega)]; exact h.cnt, fun t ht => by rw [n _ _ (by omega) (by omega) (by omega)]; exact h.num t ht, by rw [n _ _ (by omega) (by omega) (by omega)]; exact h.len, ?_, fun i hi => ?_, fun q => (by cases q), fun E q => ?_⟩
  · exact (dv_sm hs (fun j => by unfold XD isPile; omega) (fun j hj => by unfold XD isPile; omega) (fun s j hs => by unfold XD isPile; omega) (by rw [h.day]; exact k.wf.2.1)).trans h.day
  · rw [(x t (Nat.lt_of_lt_of_le ht hT)).1]; exact h.ag t ht p hp
  · exact fun j hj => (n _ _ (by omega) (by omega) (by omega)).trans (h.tape j hj)
  · obtain ⟨a, b, c⟩ := h.sht i hi
    exact ⟨by rw [n _ _ (by omega) (by omega) (by omega)]; exact a, by rw [n _ _ (by omega) (by omega) (by omega)]; exact b, fun j hj => by rw [n _ _ (by omega) (by omega) (by omega)]; exact c j hj⟩
  · have e : s.D = E := Option.some.inj q
    rw [e7, ed, h.day]
    exact ⟨by decide, e⟩
theorem jM_image {g : WG} {M : MM} {s : ST} {Q : Option Value → MM → Prop} (h : RM M s) (k : SOK s) (q : ∀ M', HI M M' → RM M' s.toI → Q (some (.int (s.D 7 0))) M') : T_X6_image g [.ref 76] M Q := by
  refine ⟨rfl, h.ok k, h.z, by rw [h.day]; exact k.n6, fun M' hs e38 e39 e41 ed => ?_⟩
  have e6 : M 76 2 = s.D 7 0 := by rw [← h.day]; rfl
  rw [e6]
  have n : ∀ a b, ¬ (a = 97 ∨ a = 98 ∨ (a = 76 ∧ 38 ≤ b ∧ b ≤ 41)) → M' a b = M a b := fun a b h1 => hs a b h1
  obtain ⟨ex, et, eb, el⟩ := RM.tx (M := M) (M' := M') (funext fun j => n _ _ (by omega)) (funext fun j => n _ _ (by omega)) (funext fun j => n _ _ (by omega))
  refine q M' (hs.HI fun a b q => by omega) ⟨?_, by rw [n 76 9 (by omega)]; exact h.rul, fun s' hs' => by rw [n 83 s' (by omega)]; exact h.z s' hs', fun t ht => et t (h.txt t ht), by rw [ex]; exact h.ag, by rw [n 76 12 (by omega)]; exact h.cnt, by rw [n 76 10 (by omega)]; exact h.len, ?_, ?_, fun i hi => ?_, fun q => (by cases q), fun E q => ?_⟩
  · exact (dm_F (fun j => n _ _ (by omega)) (fun j hj => n _ _ (by omega)) (fun f i h0 h7 hi => n _ _ (by omega))).trans h.day
  · exact fun j hj => (n _ _ (by omega)).trans (h.tape j hj)
  · rw [n 76 16 (by omega), eb, el]; exact h.cod
  · rw [n 99 _ (by omega), n 100 _ (by omega)]
    obtain ⟨a, b, c⟩ := h.sht i hi
    exact ⟨a, b, fun j hj => by rw [n 101 _ (by omega)]; exact c j hj⟩
  · have e : s.D = E := Option.some.inj q
    rw [e38, e41, ed, h.day, ← e]
    refine ⟨by decide, rfl, h.rul, fun i hi => ?_⟩
    have h6 := (k.wf.2.2.1 i hi).2.2.2.2.2.1
    have e6 : idm M' 6 i = s.D 6 i := by rw [ed, h.day]
    have hn : dn s.D = (M' 76 39).toNatClampNeg := by rw [e39, ← h.day]; rfl
    have e98 : idm M' 6 i = M' 98 (24 + i) := by
      simp only [idm]
      rw [if_neg (by decide), if_pos (by decide), if_pos (by rw [← hn]; exact hi), if_neg (by decide)]
    rw [← e98, e6]
    exact h6
theorem SOK.back {s : ST} (k : SOK s) {E : DV} (hE : s.im = some E) : SOK (s.toD E) := by
  obtain ⟨a, b, c⟩ := k.img E hE
  refine ⟨a, Nat.le_trans b k.n6, k.T1, c, k.tape, k.sort, k.size, fun E' q => ?_⟩
  have q' : s.im = some E' := q
  rw [hE] at q'
  have e : E = E' := Option.some.inj q'
  rw [← e]
  exact ⟨a, Nat.le_refl _, c⟩
theorem jC_back0 {g : WG} {M : MM} {s : ST} {Q : Option Value → MM → Prop} (h : RC M s) (hi : s.im = none) (q : Q (some (.int (-3))) M) : T_X5_back g [.ref 0] M Q := ⟨rfl, fun _ => q, fun z => absurd (h.im0 hi) z⟩
theorem jC_back1 {g : WG} {M : MM} {s : ST} {E : DV} {Q : Option Value → MM → Prop} (h : RC M s) (k : SOK s) (hE : s.im = some E) (q : ∀ M', LO M M' → RC M' (s.toD E) → Q (some (.int (E 7 0))) M') : T_X5_back g [.ref 0] M Q := by
  obtain ⟨a, b⟩ := h.im1 E hE
  refine ⟨rfl, fun z => absurd z a, fun _ => ⟨⟨D64, s.T, by rw [b]; exact (k.img E hE).1, h.txt⟩, fun M' hs hd => ?_⟩⟩
  have e6 : M 64 6 = E 7 0 := by rw [← b]; rfl
  rw [e6]
  exact q M' (hs.LO XD_lo) (h.toD k hs (hd.trans b))
theorem jM_back0 {g : WG} {M : MM} {s : ST} {Q : Option Value → MM → Prop} (h : RM M s) (hi : s.im = none) (q : Q (some (.int (-3))) M) : T_X6_back g [.ref 76] M Q := ⟨rfl, h.z, fun _ => q, fun z => absurd (h.im0 hi) z⟩
theorem jM_back1 {g : WG} {M : MM} {s : ST} {E : DV} {Q : Option Value → MM → Prop} (h : RM M s) (k : SOK s) (hE : s.im = some E) (q : ∀ M', HI M M' → RM M' (s.toD E) → Q (some (.int (E 7 0))) M') : T_X6_back g [.ref 76] M Q := by
  obtain ⟨a, b, c, d⟩ := h.im1 E hE
  have e6 : M 76 39 = E 7 0 := by rw [← b]; rfl
  have hn : dn E = (M 76 39).toNatClampNeg := by rw [e6]; rfl
  have hle := (k.img E hE).2.1
  refine ⟨rfl, h.z, fun z => absurd z a, fun _ => ⟨by rw [← hn]; exact Nat.le_trans hle k.n6, fun i hi => d i (by rw [hn]; exact hi), fun M' hs e9 hd hz => ?_⟩⟩
  rw [e6]
  exact q M' (hs.HI fun a b q => by unfold YB at q; omega) (h.toD hs (fun a b q => by unfold YB at q; unfold YKt; omega) (hd.trans b) hz (by rw [e9]; exact c) (fun E _ i _ => hs _ _ (by unfold YB; omega)))

