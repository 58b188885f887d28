/-! ===== what comes of a part, by one run of the machine ===== -/
theorem stp_mid {S V : SV} {a b i : Nat} {x0 x y : MS} (h1 : stp S V a i x0 = some x) (h2 : stp S V (a + (b + 1)) i x0 = some y) : ¬ step (S (i + a)) (V (i + a)) x = none := by
  rw [stp_app S V a (b + 1) i x0 x h1] at h2
  intro h
  simp only [stp, h] at h2
  cases h2
theorem part_one {S V : SV} {p i d : Nat} {y : MS} {c : List Int32} (hst : stp S V d (i + 1) ([], [], false, false, true) = some y) (hb : y.2.2.2.1 = true) (hl : lay 1 y.1 y.2.1 = (c, [])) (h59 : S (i + 1 + d) = 59) (hno : ∀ k, k < d → ¬ S (i + 1 + k) = 59) (hp : S i = nI (4 + p)) : (∀ k, ¬ PF S V p i k) ∧ ∀ j c', PG S V p i j c' → j = i + 1 + d + 1 ∧ c' = c := by
  have le : ∀ k x, stp S V k (i + 1) ([], [], false, false, true) = some x → k ≤ d := by
    intro k x hk
    rcases Nat.lt_or_ge d k with w | w
    · obtain ⟨b, rfl⟩ : ∃ b, k = d + (b + 1) := ⟨k - d - 1, by omega⟩
      exact absurd (by rw [h59]; exact step_59 hb) (stp_mid hst hk)
    · exact w
  refine ⟨fun k hF => ?_, fun j c' hG => ?_⟩
  · rcases hF with ⟨-, h⟩ | ⟨-, hk, x, hx, hfl⟩
    · exact h hp
    · have hd := le _ _ hx
      rcases Nat.eq_or_lt_of_le hd with e | e
      · rw [e, hst] at hx
        have hy : y = x := Option.some.inj hx
        subst hy
        have ek : k = i + 1 + d := by omega
        rw [ek] at hfl
        exact hfl.2 h59 hb (by rw [hl])
      · obtain ⟨b, hbd⟩ : ∃ b, d = (k - (i + 1)) + (b + 1) := ⟨d - (k - (i + 1)) - 1, by omega⟩
        rw [hbd] at hst
        have := stp_mid hx hst
        rw [show i + 1 + (k - (i + 1)) = k by omega] at this
        exact this hfl.1
  · obtain ⟨-, j0, x, rfl, hj, hx, hxb, hxl, hx59⟩ := hG
    have hd := le _ _ hx
    have e : j0 - (i + 1) = d := by
      rcases Nat.eq_or_lt_of_le hd with e | e
      · exact e
      · have := hno _ e
        rw [show i + 1 + (j0 - (i + 1)) = j0 by omega] at this
        exact absurd hx59 this
    rw [e, hst] at hx
    have hy : y = x := Option.some.inj hx
    subst hy
    rw [hl] at hxl
    exact ⟨by omega, (congrArg Prod.fst hxl).symm⟩

