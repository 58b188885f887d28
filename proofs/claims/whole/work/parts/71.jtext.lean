/-! ===== text: the model's side ===== -/
theorem seg_id {f : Nat → Int32} : ∀ (c : List Int32) (i : Nat), (∀ t x, c[t]? = some x → f (i + t) = x) → seg f i c.length = c
  | [], _, _ => rfl
  | a :: c, i, h => by
    simp only [List.length_cons, seg]
    rw [seg_id c (i + 1) (fun t x ht => by rw [show i + 1 + t = i + (t + 1) by omega]; exact h (t + 1) x (by simpa using ht))]
    congr 1
    exact h 0 a rfl
theorem RP.mt {M : MM} {t p b : Nat} {c : List Int32} (h : RP M (3 * t + p) b c) (hb : b + c.length ≤ 3000) (hl : c.length ≤ 160) (hw : wfc 1 c) : (M 85 (3 * t + p) = nI (mb M t p) ∧ M 86 (3 * t + p) = nI (ml M t p) ∧ mb M t p + ml M t p ≤ 3000 ∧ ml M t p ≤ 160 ∧ wfX (mseg M t p) ∧ ∀ j, j < ml M t p → isN (M 87 (mb M t p + j)) 10015) ∧ mseg M t p = c.map tr ∧ mb M t p + ml M t p = b + c.length := by
  obtain ⟨h1, h2, h3⟩ := h
  have e1 : mb M t p = b := by unfold mb; rw [h1, nI_clamp (by omega)]
  have e2 : ml M t p = c.length := by unfold ml; rw [h2, nI_clamp (by omega)]
  have e3 : mseg M t p = c.map tr := by unfold mseg; rw [e1, e2, seg_id c b h3]
  refine ⟨⟨by rw [e1]; exact h1, by rw [e2]; exact h2, by rw [e1, e2]; exact hb, by rw [e2]; exact hl, by rw [e3]; exact hw.1 0, fun j hj => ?_⟩, e3, by rw [e1, e2]⟩
  rw [e2] at hj
  rw [e1, h3 j _ (List.getElem?_eq_getElem hj)]
  exact hw.2 _ (List.getElem_mem hj)
theorem jM_text6 {g : WG} {M : MM} {s : ST} {Q : Option Value → MM → Prop} (h : RM M s) (k : SOK s) (h6 : s.T = 6) (q : Q (some (.int (-4))) M) : T_X6_text g [.ref 76] M Q :=
  ⟨s.T, 0, 0, fun _ => 0, fun _ => 0, 0, 0, none, rfl, h.cnt, k.wf.2.2.2.2, fun _ => q, fun w => by omega⟩
theorem jM_textF {g : WG} {M : MM} {s : ST} {m i : Nat} {S V : SV} {Q : Option Value → MM → Prop} (h : RM M s) (k : SOK s) (h5 : s.T < 6) (hr : RDF s m S V i) (q : ∀ M', HI M M' → RM M' (s.toN 0 s.B) → Q (some (.int (-100 - nI (pl s.B s.n i)))) M') : T_X6_text g [.ref 76] M Q := by
  obtain ⟨c, c1, c2, c3⟩ := h.cod
  obtain ⟨hST, hi, hF⟩ := hr
  refine ⟨s.T, s.n, m, S, V, c, i, none, rfl, h.cnt, by omega, fun w => by omega, fun _ => ⟨STR_c h.tape hST, k.tape, h.len, c2, by omega, OUT_f hF, fun _ M' hs h10 h12 h16 => ?_, fun x y z w => by cases w⟩⟩
  rw [pl_c h.tape]
  refine q M' (hs.HI fun a b q => by unfold YTm YMb YMa YN at q; omega) ?_
  have y : ∀ a b, YTm s.T c a b → YHi s c a b := fun a b q => by unfold YTm YMb YMa YN at q; unfold YHi; omega
  refine h.low _ k hs c2 c3 c1 (h16.trans c2.symm) (h12.trans h.cnt.symm) y (zM_L hs (fun b => by unfold YTm YMb YMa YN; omega) h.z) rfl rfl rfl rfl h10 ?_ (fun i hi => ?_)
  · exact fun j hj => absurd hj (Nat.not_lt_zero j)
  · obtain ⟨a, b, d⟩ := h.sht i hi
    exact ⟨by rw [hs _ _ (by unfold YTm YMb YMa YN; omega)]; exact a, by rw [hs _ _ (by unfold YTm YMb YMa YN; omega)]; exact b, fun j hj => by rw [hs _ _ (by unfold YTm YMb YMa YN; omega)]; exact d j hj⟩
theorem jM_textG {g : WG} {M : MM} {s : ST} {m : Nat} {S V : SV} {cs : Nat → List Int32} {Q : Option Value → MM → Prop} (h : RM M s) (k : SOK s) (h5 : s.T < 6) (hr : RDG s m S V cs) (q : ∀ M', HI M M' → RM M' (s.toT cs) → Q (some (.int (nI s.T))) M') : T_X6_text g [.ref 76] M Q := by
  obtain ⟨c, c1, c2, c3⟩ := h.cod
  obtain ⟨hST, hG, hw, hl⟩ := hr
  refine ⟨s.T, s.n, m, S, V, c, 0, some [cs 0, cs 1, cs 2], rfl, h.cnt, by omega, fun w => by omega, fun _ => ⟨STR_c h.tape hST, k.tape, h.len, c2, by omega, OUT_g hG, fun w => (by cases w), fun x y z w M' hs h10 h12 h16 r0 r1 r2 => ?_⟩⟩
  have w0 : x = cs 0 ∧ y = cs 1 ∧ z = cs 2 := by
    simp only [Option.some.injEq, List.cons.injEq, and_true] at w
    exact ⟨w.1.symm, w.2.1.symm, w.2.2.symm⟩
  obtain ⟨rfl, rfl, rfl⟩ := w0
  refine q M' (hs.HI fun a b q => by unfold YTm YMb YMa YN at q; omega) ?_
  have y : ∀ a b, YTm s.T c a b → YHi s c a b := fun a b q => by unfold YTm YMb YMa YN at q; unfold YHi; omega
  have p0 := RP.mt (t := s.T) (p := 0) r0 (by omega) (by omega) (hw 0 (by decide))
  have p1 := RP.mt (t := s.T) (p := 1) r1 (by omega) (by omega) (hw 1 (by decide))
  have p2 := RP.mt (t := s.T) (p := 2) r2 (by omega) (by omega) (hw 2 (by decide))
  have c3' : ∀ p, p < 3 → p = 0 ∨ p = 1 ∨ p = 2 := fun p hp => by omega
  refine h.low2 (c := c) (c' := c + (cs 0).length + (cs 1).length + (cs 2).length) _ k hs c3 y (zM_L hs (fun b => by unfold YTm YMb YMa YN; omega) h.z) rfl (Nat.le_succ _) (fun t ht p hp => if_neg (by omega)) (fun t h1 h2 => ?_) (by omega) ?_ h16 rfl h12 h10 ?_ (fun i hi => ?_)
  · have : t = s.T := by
      have h2 : t < s.T + 1 := h2
      omega
    subst this
    refine ⟨fun p hp => ?_, fun p hp => ?_⟩
    · rcases c3' p hp with rfl | rfl | rfl
      · exact p0.1
      · exact p1.1
      · exact p2.1
    · have e : (s.toT cs).X (8 + 4 * s.T) p = (cs p).map tr := if_pos rfl
      rw [e]
      rcases c3' p hp with rfl | rfl | rfl
      · exact ⟨p0.2.1, by rw [p0.2.2]; omega⟩
      · exact ⟨p1.2.1, by rw [p1.2.2]; omega⟩
      · exact ⟨p2.2.1, by rw [p2.2.2]; omega⟩
  · show _ ≤ 160 * (s.T + 1)
    omega
  · exact fun j hj => absurd hj (Nat.not_lt_zero j)
  · obtain ⟨a, b, d⟩ := h.sht i hi
    exact ⟨by rw [hs _ _ (by unfold YTm YMb YMa YN; omega)]; exact a, by rw [hs _ _ (by unfold YTm YMb YMa YN; omega)]; exact b, fun j hj => by rw [hs _ _ (by unfold YTm YMb YMa YN; omega)]; exact d j hj⟩
/-! force -/
def ST.toR (s : ST) (t : Nat) : ST := (upF s.D 7 2 (nI (8 + 4 * t)), s.2)
theorem SOK.toR {s : ST} (k : SOK s) {t : Nat} (ht : t < s.T) : SOK (s.toR t) := by
  have e0 : upF s.D 7 2 (nI (8 + 4 * t)) 7 0 = s.D 7 0 := upF_nk (by decide)
  have en : dn (upF s.D 7 2 (nI (8 + 4 * t))) = dn s.D := by unfold dn; rw [e0]
  refine ⟨wfD_r2 k.wf ht, ?_, k.T1, ?_, k.tape, k.sort, k.size, fun E q => ?_⟩
  · show dn (upF s.D 7 2 (nI (8 + 4 * t))) ≤ 6
    rw [en]; exact k.n6
  · show isN (upF s.D 7 2 (nI (8 + 4 * t)) 7 1) 1000
    rw [upF_nk (by decide)]; exact k.date
  · obtain ⟨a, b, c⟩ := k.img E q
    refine ⟨a, ?_, c⟩
    show dn E ≤ dn (upF s.D 7 2 (nI (8 + 4 * t)))
    rw [en]; exact b
theorem jC_force {g : WG} {M : MM} {s : ST} {x : Int32} {Q : Option Value → MM → Prop} (h : RC M s) (k : SOK s) (q1 : ¬ (0 ≤ x ∧ x < nI s.T) → Q (some (.int (-2))) M) (q2 : ∀ t, x = nI t → t < s.T → ∀ M', LO M M' → RC M' (s.toR t) → Q (some (.int (ruN s))) M') : T_X5_force g [.ref 0, .int x] M Q := by
  obtain ⟨t0, ht, h6, e4, er⟩ := h.ruN k
  have hT := k.wf.2.2.2.2
  refine ⟨x, s.T, t0, rfl, h.cnt, hT, e4, h6, q1, fun t hx htT => ?_⟩
  rw [h.num t0 h6, ← er]
  have hs : Sm (XD 40) M (mset M 40 4 (nI (8 + 4 * t))) := Sm.rf.set _ (Or.inl ⟨by decide, by decide⟩)
  refine q2 t hx htT _ (hs.LO XD_lo) ?_
  have := h.toD (D' := upF s.D 7 2 (nI (8 + 4 * t))) k hs ?_
  · exact this
  · rw [← h.day]
    funext f i
    simp only [dv, upF, mset_app]
    by_cases h0 : f = 0
    · simp [h0]
    · by_cases h7 : f < 7
      · have : ¬ f = 7 := by omega
        have h5 : ¬ 40 + 5 + i = 40 := by omega
        simp [h0, h7, this, h5]
      · by_cases e7 : f = 7
        · subst e7
          by_cases i0 : i = 0
          · simp [i0]
          · by_cases i1 : i = 1
            · simp [i1]
            · by_cases i2 : i = 2
              · simp [i2]
              · simp [i0, i1, i2]
        · simp [h0, h7, e7]

