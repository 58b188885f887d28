/-! ===== pass, of the model ===== -/
theorem jM_pass {g : WG} {M : MM} {s : ST} {Q : Option Value → MM → Prop} (h : RM M s) (k : SOK s) (q1 : s.D 7 1 = 999 → Q (some (.int (-3))) M) (q2 : ¬ s.D 7 1 = 999 → ∀ M', HI M M' → RM M' (s.toD (pasD s.X s.D)) → Q (some (.int (pasB s.X s.D))) M') : T_X6_pass g [.ref 76] M Q := by
  have e : M 76 0 = s.D 7 1 := by rw [← h.day]; rfl
  refine ⟨rfl, h.ok k, ?_, ?_⟩ <;> rw [e]
  · exact q1
  · intro a M' hs hd
    rw [h.day] at hs
    rw [h.day, pasD_e (h.eq k)] at hd
    rw [h.day, pasB_e (h.eq k)]
    refine q2 a M' (hs.HI fun a b q => by unfold YWn at q; omega) (h.toD hs (fun a b q => by unfold YWn at q; unfold YKt; omega) hd (fun i hi => ?_) (by rw [hs 76 9 (by unfold YWn; omega)]; exact h.rul) (fun E _ i _ => hs _ _ (by unfold YWn; omega)))
    rcases Nat.lt_or_ge i (dn s.D) with w | w
    · have hn : i < dn (dm M') := by rw [hd, dn_pas]; exact w
      have e6 : dm M' 6 i = M' 83 i := dm_s 6 (by decide) (by decide) hn
      rw [← e6, hd]
      exact ((wfD_pas (X := s.X) k.wf).2.2.1 i (by rw [dn_pas]; exact w)).2.2.2.2.2.1
    · rw [hs 83 i (by unfold YWn; omega)]; exact h.z i hi

