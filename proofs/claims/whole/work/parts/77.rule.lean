/-! ===== what comes of a part, by one run of the machine ===== -/
theorem stp_mid {S V : SV} {a b i : Nat} {x0 x y : MS} (h1 : stp S V a i x0 = some x) (h2 : stp S V (a + (b + 1)) i x0 = some y) : ¬ step (S (i + a)) (V (i + a)) x = none := by
  rw [stp_app S V a (b + 1) i x0 x h1] at h2
  intro h
  simp only [stp, h] at h2
  cases h2
theorem part_one {S V : SV} {p i d : Nat} {y : MS} {c : List Int32} (hst : stp S V d (i + 1) ([], [], false, false, true) = some y) (hb : y.2.2.2.1 = true) (hl : lay 1 y.1 y.2.1 = (c, [])) (h59 : S (i + 1 + d) = 59) (hno : ∀ k, k < d → ¬ S (i + 1 + k) = 59) (hp : S i = nI (4 + p)) : (∀ k, ¬ PF S V p i k) ∧ ∀ j c', PG S V p i j c' → j = i + 1 + d + 1 ∧ c' = c := by
  have le : ∀ k x, stp S V k (i + 1) ([], [], false, false, true) = some x → k ≤ d := by
    intro k x hk
    rcases Nat.lt_or_ge d k with w | w
    · obtain ⟨b, rfl⟩ : ∃ b, k = d + (b + 1) := ⟨k - d - 1, by omega⟩
      exact absurd (by rw [h59]; exact step_59 hb) (stp_mid hst hk)
    · exact w
  refine ⟨fun k hF => ?_, fun j c' hG => ?_⟩
  · rcases hF with ⟨-, h⟩ | ⟨-, hk, x, hx, hfl⟩
    · exact h hp
    · have hd := le _ _ hx
      rcases Nat.eq_or_lt_of_le hd with e | e
      · rw [e, hst] at hx
        have hy : y = x := Option.some.inj hx
        subst hy
        have ek : k = i + 1 + d := by omega
        rw [ek] at hfl
        exact hfl.2 h59 hb (by rw [hl])
      · obtain ⟨b, hbd⟩ : ∃ b, d = (k - (i + 1)) + (b + 1) := ⟨d - (k - (i + 1)) - 1, by omega⟩
        rw [hbd] at hst
        have := stp_mid hx hst
        rw [show i + 1 + (k - (i + 1)) = k by omega] at this
        exact this hfl.1
  · obtain ⟨-, j0, x, rfl, hj, hx, hxb, hxl, hx59⟩ := hG
    have hd := le _ _ hx
    have e : j0 - (i + 1) = d := by
      rcases Nat.eq_or_lt_of_le hd with e | e
      · exact e
      · have := hno _ e
        rw [show i + 1 + (j0 - (i + 1)) = j0 by omega] at this
        exact absurd hx59 this
    rw [e, hst] at hx
    have hy : y = x := Option.some.inj hx
    subst hy
    rw [hl] at hxl
    exact ⟨by omega, (congrArg Prod.fst hxl).symm⟩
/-- the rule that a new object has -/
theorem rule_read {S V : SV} (s0 : S 0 = 4) (s1 : S 1 = 3) (v1 : V 1 = 0) (s2 : S 2 = 59) (s3 : S 3 = 5) (s4 : S 4 = 2) (v4 : V 4 = 1) (s5 : S 5 = 43) (s6 : S 6 = 3) (v6 : V 6 = 0) (s7 : S 7 = 59) (s8 : S 8 = 6) (s9 : S 9 = 2) (v9 : V 9 = 20) (s10 : S 10 = 59) (s11 : S 11 = 0) : (∀ k, ¬ FlS S V k) ∧ ∀ cs, GdS S V cs → cs 0 = [0] ∧ cs 1 = [16, 0, 6] ∧ cs 2 = [35] := by
  have p0 := part_one (S := S) (V := V) (p := 0) (i := 0) (d := 1) (y := ([0], [], false, true, true)) (c := [0]) (by simp only [stp, s1, v1]; rfl) rfl rfl s2 (fun k hk => by
    have : k = 0 := by omega
    subst this
    rw [s1]
    decide) s0
  have p1 := part_one (S := S) (V := V) (p := 1) (i := 3) (d := 3) (y := ([16, 0], [6], false, true, false)) (c := [16, 0, 6]) (by simp only [stp, s4, v4, s5, s6, v6]; rfl) rfl rfl s7 (fun k hk => by
    have : k = 0 ∨ k = 1 ∨ k = 2 := by omega
    rcases this with rfl | rfl | rfl
    · rw [s4]; decide
    · rw [s5]; decide
    · rw [s6]; decide) s3
  have p2 := part_one (S := S) (V := V) (p := 2) (i := 8) (d := 1) (y := ([35], [], false, true, true)) (c := [35]) (by simp only [stp, s9, v9]; rfl) rfl rfl s10 (fun k hk => by
    have : k = 0 := by omega
    subst this
    rw [s9]
    decide) s8
  have g3 : ∀ cs j, PGs S V 3 cs j → j = 11 ∧ cs 0 = [0] ∧ cs 1 = [16, 0, 6] ∧ cs 2 = [35] := by
    rintro cs j ⟨i2, ⟨i1, ⟨i0, hi, g0⟩, g1⟩, g2⟩
    have hi : i0 = 0 := hi
    subst hi
    obtain ⟨rfl, e0⟩ := p0.2 _ _ g0
    obtain ⟨rfl, e1⟩ := p1.2 _ _ g1
    obtain ⟨rfl, e2⟩ := p2.2 _ _ g2
    exact ⟨rfl, e0, e1, e2⟩
  refine ⟨fun k hF => ?_, fun cs hG => ?_⟩
  · rcases hF with ⟨p, i, cs, hp, hG, hF⟩ | ⟨cs, hG, h0⟩
    · have : p = 0 ∨ p = 1 ∨ p = 2 := by omega
      rcases this with rfl | rfl | rfl
      · have hi : i = 0 := hG
        subst hi
        exact p0.1 _ hF
      · obtain ⟨i0, hi, g0⟩ := hG
        have hi : i0 = 0 := hi
        subst hi
        obtain ⟨rfl, -⟩ := p0.2 _ _ g0
        exact p1.1 _ hF
      · obtain ⟨i1, ⟨i0, hi, g0⟩, g1⟩ := hG
        have hi : i0 = 0 := hi
        subst hi
        obtain ⟨rfl, -⟩ := p0.2 _ _ g0
        obtain ⟨rfl, -⟩ := p1.2 _ _ g1
        exact p2.1 _ hF
    · obtain ⟨rfl, -⟩ := g3 cs k hG
      exact h0 s11
  · obtain ⟨j, hG, -⟩ := hG
    exact (g3 cs j hG).2
def ruB (j : Nat) : Int32 := (bytS.getD 0 []).getD j 0
theorem ru_pl : lenS.getD 0 0 = 45 ∧ pl ruB 45 11 = 45 ∧ ∀ k, k < 11 → pl ruB 45 k < 45 := by decide +kernel
theorem ru_tk : tkS ruB 45 (pl ruB 45 0) = 4 ∧ (tkS ruB 45 (pl ruB 45 1) = 3 ∧ tkV ruB 45 (pl ruB 45 1) = 0) ∧ tkS ruB 45 (pl ruB 45 2) = 59 ∧ tkS ruB 45 (pl ruB 45 3) = 5 ∧ (tkS ruB 45 (pl ruB 45 4) = 2 ∧ tkV ruB 45 (pl ruB 45 4) = 1) ∧ tkS ruB 45 (pl ruB 45 5) = 43 ∧ (tkS ruB 45 (pl ruB 45 6) = 3 ∧ tkV ruB 45 (pl ruB 45 6) = 0) ∧ tkS ruB 45 (pl ruB 45 7) = 59 ∧ tkS ruB 45 (pl ruB 45 8) = 6 ∧ (tkS ruB 45 (pl ruB 45 9) = 2 ∧ tkV ruB 45 (pl ruB 45 9) = 20) ∧ tkS ruB 45 (pl ruB 45 10) = 59 := by decide +kernel
/-- read from the rule's own bytes: no fault, these codes -/
theorem rule_toks {B : Nat → Int32} {m : Nat} {S V : SV} (hB : ∀ j, j < 45 → B j = ruB j) (h : STR B 45 m S V) : (∀ k, ¬ FlS S V k) ∧ ∀ cs, GdS S V cs → cs 0 = [0] ∧ cs 1 = [16, 0, 6] ∧ cs 2 = [35] := by
  obtain ⟨a, b, c, d, e⟩ := STR_c (fun j hj => (hB j hj).symm) h
  obtain ⟨-, p11, plt⟩ := ru_pl
  have hm : m = 11 := by
    rcases Nat.lt_or_ge m 11 with w | w
    · have := plt m w
      omega
    · rcases Nat.lt_or_ge 11 m with u | u
      · have := (e 11 u).1
        omega
      · omega
  subst hm
  obtain ⟨t0, ⟨t1, u1⟩, t2, t3, ⟨t4, u4⟩, t5, ⟨t6, u6⟩, t7, t8, ⟨t9, u9⟩, t10⟩ := ru_tk
  have f : ∀ k, k < 11 → S k = tkS ruB 45 (pl ruB 45 k) ∧ V k = tkV ruB 45 (pl ruB 45 k) := fun k hk => (e k hk).2
  exact rule_read ((f 0 (by decide)).1.trans t0) ((f 1 (by decide)).1.trans t1) ((f 1 (by decide)).2.trans u1) ((f 2 (by decide)).1.trans t2) ((f 3 (by decide)).1.trans t3) ((f 4 (by decide)).1.trans t4) ((f 4 (by decide)).2.trans u4) ((f 5 (by decide)).1.trans t5) ((f 6 (by decide)).1.trans t6) ((f 6 (by decide)).2.trans u6) ((f 7 (by decide)).1.trans t7) ((f 8 (by decide)).1.trans t8) ((f 9 (by decide)).1.trans t9) ((f 9 (by decide)).2.trans u9) ((f 10 (by decide)).1.trans t10) c

