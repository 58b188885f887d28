/-! ===== the reading of a text, as a machine: what waits, what is coded ===== -/
def rnk (c : Int32) : Nat := if c = 12 then 1 else if c = 11 then 2 else if c = 13 then 3 else if c = 9 ∨ c = 10 then 4 else if c = 6 ∨ c = 7 then 5 else if c = 8 then 6 else if c = 14 then 7 else 0
/-- how many are open -/
def opn : List Int32 → Nat
  | [] => 0
  | w :: W => opn W + if w = 13 ∨ w = 14 ∨ rnk w = 0 then 1 else 0
def tpr : List Int32 → Nat
  | [] => 0
  | w :: _ => rnk w
def lay (r : Nat) (o : List Int32) : List Int32 → List Int32 × List Int32
  | [] => (o, [])
  | w :: W => if r ≤ rnk w then lay r (o ++ [w]) W else (o, w :: W)
def sgn (s : Int32) (cm : Bool) : Int32 := if s = 42 then 8 else if s = 43 then 6 else if s = 45 then 7 else if s = 60 then (if cm then -1 else 9) else if s = 61 then (if cm then -1 else 10) else if s = 8 then 11 else if s = 7 then 12 else -1
/-- out, what waits, compared, behind, starts -/
abbrev MS : Type := List Int32 × List Int32 × Bool × Bool × Bool
def step (s v : Int32) : MS → Option MS
  | (o, W, cm, false, st) =>
    if s = 2 ∨ s = 3 then some ((lay 7 (o ++ [if s = 2 then 15 + v else v]) W).1, (lay 7 (o ++ [if s = 2 then 15 + v else v]) W).2, cm, true, st)
    else if ¬ ((st = true ∧ s = 9) ∨ s = 45 ∨ s = 40) ∨ opn W = 5 then none
    else if s = 40 then some (o, (if cm then -2 else -1) :: W, false, false, true)
    else if s = 9 then some (o, 13 :: W, cm, false, true)
    else some (o, 14 :: W, cm, false, false)
  | (o, W, cm, true, st) =>
    if s = 41 then (match lay 1 o W with
      | (_, []) => none
      | (o1, b :: W1) => some ((lay 7 o1 W1).1, (lay 7 o1 W1).2, decide (b = -2), true, st))
    else if sgn s cm = -1 then none
    else some ((lay (rnk (sgn s cm)) o W).1, sgn s cm :: (lay (rnk (sgn s cm)) o W).2, (if rnk (sgn s cm) < 3 then false else if rnk (sgn s cm) = 4 then true else cm), false, decide (rnk (sgn s cm) < 3))
def stp (S V : Nat → Int32) : Nat → Nat → MS → Option MS
  | 0, _, x => some x
  | n + 1, i, x => match step (S i) (V i) x with
    | none => none
    | some y => stp S V n (i + 1) y
/-- it can't go on at a token -/
def flr (s v : Int32) (x : MS) : Prop := step s v x = none ∧ (s = 59 → x.2.2.2.1 = true → ¬ (lay 1 x.1 x.2.1).2 = [])
theorem stp_app (S V : Nat → Int32) : ∀ a b i x y, stp S V a i x = some y → stp S V (a + b) i x = stp S V b (i + a) y
  | 0, b, i, x, y, h => by
    simp only [stp, Option.some.injEq] at h
    subst h
    rw [Nat.zero_add]; rfl
  | a + 1, b, i, x, y, h => by
    rw [show a + 1 + b = (a + b) + 1 by omega]
    simp only [stp] at h ⊢
    cases hs : step (S i) (V i) x with
    | none => rw [hs] at h; cases h
    | some z =>
      rw [hs] at h
      simp only at h ⊢
      rw [stp_app S V a b (i + 1) z y h, show i + 1 + a = i + (a + 1) by omega]
theorem stp_1 {S V : Nat → Int32} {i : Nat} {x y : MS} (h : step (S i) (V i) x = some y) : stp S V 1 i x = some y := by simp only [stp, h]
theorem stp_cat {S V : Nat → Int32} {i j j2 : Nat} {x y z u : MS} (hij : i ≤ j) (h1 : stp S V (j - i) i x = some y) (h2 : step (S j) (V j) y = some z) (hj : j + 1 ≤ j2) (h3 : stp S V (j2 - (j + 1)) (j + 1) z = some u) : stp S V (j2 - i) i x = some u := by
  have e1 : j2 - i = (j - i) + (1 + (j2 - (j + 1))) := by omega
  rw [e1, stp_app S V _ _ _ _ _ h1, show i + (j - i) = j by omega, stp_app S V _ _ _ _ _ (stp_1 h2)]
  exact h3
theorem stp_front {S V : Nat → Int32} {i j2 : Nat} {x z u : MS} (h2 : step (S i) (V i) x = some z) (hj : i + 1 ≤ j2) (h3 : stp S V (j2 - (i + 1)) (i + 1) z = some u) : stp S V (j2 - i) i x = some u :=
  stp_cat (Nat.le_refl i) (by rw [Nat.sub_self]; rfl) h2 hj h3
theorem stp_back {S V : Nat → Int32} {i j : Nat} {x y z : MS} (hij : i ≤ j) (h1 : stp S V (j - i) i x = some y) (h2 : step (S j) (V j) y = some z) : stp S V (j + 1 - i) i x = some z :=
  stp_cat hij h1 h2 (Nat.le_refl _) (by rw [Nat.sub_self]; rfl)
theorem lay_stop {r : Nat} {W : List Int32} (o : List Int32) (h : tpr W < r) : lay r o W = (o, W) := by
  cases W with
  | nil => rfl
  | cons w W =>
    have : ¬ r ≤ rnk w := by show ¬ r ≤ tpr (w :: W); omega
    simp only [lay, if_neg this]
theorem lay_cons {r : Nat} {w : Int32} {W : List Int32} (o : List Int32) (h : r ≤ rnk w) : lay r o (w :: W) = lay r (o ++ [w]) W := by simp only [lay, if_pos h]
theorem lay_lay {r r' : Nat} (h : r ≤ r') : ∀ (W o : List Int32), lay r (lay r' o W).1 (lay r' o W).2 = lay r o W
  | [], o => rfl
  | w :: W, o => by
    by_cases c : r' ≤ rnk w
    · rw [lay_cons o c, lay_lay h W, lay_cons o (by omega)]
    · simp only [lay, if_neg c]
theorem lay_eq {r r' : Nat} (h : r ≤ r') {o o2 W W2 : List Int32} (e : lay r' o2 W2 = (o, W)) : lay r o2 W2 = lay r o W := by rw [← lay_lay h W2 o2, e]
/-! the levels: good (G) and at fault (F) -/
def cnd (S : Nat → Int32) (i : Nat) (st : Bool) : Prop := st = true → ¬ S i = 9
def G1 (S V : Nat → Int32) (op i j : Nat) (c : List Int32) : Prop := ∀ o W cm st, opn W = op → cnd S i st → ∃ st', stp S V (j - i) i (o, W, cm, false, st) = some ((lay 7 (o ++ c) W).1, (lay 7 (o ++ c) W).2, cm, true, st')
def F1 (S V : Nat → Int32) (op i k : Nat) : Prop := ∀ o W cm st, opn W = op → cnd S i st → ∃ x, stp S V (k - i) i (o, W, cm, false, st) = some x ∧ flr (S k) (V k) x
def GL (r : Nat) (S V : Nat → Int32) (op i j : Nat) (c : List Int32) : Prop := ∀ o W cm st, opn W = op → tpr W < r → cnd S i st → ∃ o2 W2 st', stp S V (j - i) i (o, W, cm, false, st) = some (o2, W2, cm, true, st') ∧ lay r o2 W2 = (o ++ c, W)
def FL (r : Nat) (S V : Nat → Int32) (op i k : Nat) : Prop := ∀ o W cm st, opn W = op → tpr W < r → cnd S i st → ∃ x, stp S V (k - i) i (o, W, cm, false, st) = some x ∧ flr (S k) (V k) x
def cmk (s : Int32) (cm : Bool) : Prop := (s = 60 ∨ s = 61) → cm = true
def G4 (S V : Nat → Int32) (op i j : Nat) (c : List Int32) : Prop := ∀ o W st, opn W = op → tpr W < 4 → cnd S i st → ∃ o2 W2 cm' st', stp S V (j - i) i (o, W, false, false, st) = some (o2, W2, cm', true, st') ∧ lay 4 o2 W2 = (o ++ c, W) ∧ cmk (S j) cm'
def F4 (S V : Nat → Int32) (op i k : Nat) : Prop := ∀ o W st, opn W = op → tpr W < 4 → cnd S i st → ∃ x, stp S V (k - i) i (o, W, false, false, st) = some x ∧ flr (S k) (V k) x
def G3 (S V : Nat → Int32) (op i j : Nat) (c : List Int32) : Prop := ∀ o W, opn W = op → tpr W < 4 → ∃ o2 W2 cm' st', stp S V (j - i) i (o, W, false, false, true) = some (o2, W2, cm', true, st') ∧ lay 3 o2 W2 = lay 3 (o ++ c) W ∧ cmk (S j) cm'
def F3 (S V : Nat → Int32) (op i k : Nat) : Prop := ∀ o W, opn W = op → tpr W < 4 → ∃ x, stp S V (k - i) i (o, W, false, false, true) = some x ∧ flr (S k) (V k) x
def GB (r : Nat) (S V : Nat → Int32) (op i j : Nat) (c : List Int32) : Prop := ∀ o W, opn W = op → tpr W < r → ∃ o2 W2 cm' st', stp S V (j - i) i (o, W, false, false, true) = some (o2, W2, cm', true, st') ∧ lay r o2 W2 = (o ++ c, W) ∧ cmk (S j) cm'
def FB (r : Nat) (S V : Nat → Int32) (op i k : Nat) : Prop := ∀ o W, opn W = op → tpr W < r → ∃ x, stp S V (k - i) i (o, W, false, false, true) = some x ∧ flr (S k) (V k) x
section LEV
variable {S V : Nat → Int32} {op i j j2 k : Nat} {c c2 : List Int32}
theorem G1.L (h : G1 S V op i j c) : GL 7 S V op i j c := by
  intro o W cm st ho ht hc
  obtain ⟨st', e⟩ := h o W cm st ho hc
  rw [lay_stop _ ht] at e
  exact ⟨_, _, st', e, lay_stop _ ht⟩
theorem F1.L (h : F1 S V op i k) : FL 7 S V op i k := fun o W cm st ho _ hc => h o W cm st ho hc
theorem GL.mono {r r' : Nat} (hr : r ≤ r') (h : GL r' S V op i j c) : GL r S V op i j c := by
  intro o W cm st ho ht hc
  obtain ⟨o2, W2, st', e, hl⟩ := h o W cm st ho (by omega) hc
  exact ⟨o2, W2, st', e, by rw [lay_eq hr hl, lay_stop _ ht]⟩
theorem FL.mono {r r' : Nat} (hr : r ≤ r') (h : FL r' S V op i k) : FL r S V op i k := fun o W cm st ho ht hc => h o W cm st ho (by omega) hc
theorem GB.mono {r r' : Nat} (hr : r ≤ r') (h : GB r' S V op i j c) : GB r S V op i j c := by
  intro o W ho ht
  obtain ⟨o2, W2, cm', st', e, hl, hk⟩ := h o W ho (by omega)
  exact ⟨o2, W2, cm', st', e, by rw [lay_eq hr hl, lay_stop _ ht], hk⟩
theorem FB.mono {r r' : Nat} (hr : r ≤ r') (h : FB r' S V op i k) : FB r S V op i k := fun o W ho ht => h o W ho (by omega)
/-- a sign that binds, behind what stands -/
theorem step_bin {o W : List Int32} {cm st : Bool} {s v sg : Int32} (h41 : ¬ s = 41) (hs : sgn s cm = sg) (h1 : ¬ sg = -1) : step s v (o, W, cm, true, st) = some ((lay (rnk sg) o W).1, sg :: (lay (rnk sg) o W).2, (if rnk sg < 3 then false else if rnk sg = 4 then true else cm), false, decide (rnk sg < 3)) := by
  simp only [step]
  rw [if_neg h41, hs, if_neg h1]
theorem sg_step {r : Nat} {sg s : Int32} (hr : r = 5 ∨ r = 6) (hrk : rnk sg = r) (h41 : ¬ s = 41) (hs : ∀ cm, sgn s cm = sg) (h1 : ¬ sg = -1) {o2 W2 o W : List Int32} (hl : lay r o2 W2 = (o, W)) (v : Int32) (cm st : Bool) : step s v (o2, W2, cm, true, st) = some (o, sg :: W, cm, false, false) := by
  rw [step_bin h41 (hs cm) h1, hrk, hl]
  rcases hr with rfl | rfl <;> rfl
theorem bin_step {r : Nat} {sg : Int32} (hr : r = 5 ∨ r = 6) (hrk : rnk sg = r) (hop : ∀ W, opn (sg :: W) = opn W) (h41 : ¬ S j = 41) (hs : ∀ cm, sgn (S j) cm = sg) (h1 : ¬ sg = -1) (hij : i ≤ j) (hj : j + 1 ≤ j2) (h : GL r S V op i j c) (h2 : GL (r + 1) S V op (j + 1) j2 c2) : GL r S V op i j2 (c ++ c2 ++ [sg]) := by
  intro o W cm st ho ht hc
  obtain ⟨o2, W2, st', e, hl⟩ := h o W cm st ho ht hc
  have e2 := sg_step hr hrk h41 hs h1 hl (V j) cm st'
  obtain ⟨o3, W3, st3, e3, hl3⟩ := h2 (o ++ c) (sg :: W) cm false (by rw [hop]; exact ho) (by show rnk sg < r + 1; omega) (fun q => by cases q)
  refine ⟨o3, W3, st3, stp_cat hij e e2 hj e3, ?_⟩
  rw [lay_eq (Nat.le_succ r) hl3, lay_cons _ (by omega), lay_stop _ ht]
  simp
theorem bin_fail {r : Nat} {sg : Int32} (hr : r = 5 ∨ r = 6) (hrk : rnk sg = r) (hop : ∀ W, opn (sg :: W) = opn W) (h41 : ¬ S j = 41) (hs : ∀ cm, sgn (S j) cm = sg) (h1 : ¬ sg = -1) (hij : i ≤ j) (hj : j + 1 ≤ k) (h : GL r S V op i j c) (h2 : FL (r + 1) S V op (j + 1) k) : FL r S V op i k := by
  intro o W cm st ho ht hc
  obtain ⟨o2, W2, st', e, hl⟩ := h o W cm st ho ht hc
  have e2 := sg_step hr hrk h41 hs h1 hl (V j) cm st'
  obtain ⟨x, e3, hx⟩ := h2 (o ++ c) (sg :: W) cm false (by rw [hop]; exact ho) (by show rnk sg < r + 1; omega) (fun q => by cases q)
  exact ⟨x, stp_cat hij e e2 hj e3, hx⟩
theorem cmp_0 (h : GL 5 S V op i j c) (hf : ¬ S j = 60 ∧ ¬ S j = 61) : G4 S V op i j c := by
  intro o W st ho ht hc
  obtain ⟨o2, W2, st', e, hl⟩ := h o W false st ho (by omega) hc
  exact ⟨o2, W2, false, st', e, by rw [lay_eq (by decide) hl, lay_stop _ ht], fun q => absurd q (fun q => q.elim hf.1 hf.2)⟩
theorem cmp_f0 (h : FL 5 S V op i k) : F4 S V op i k := fun o W st ho ht hc => h o W false st ho (by omega) hc
theorem cmp_step {sg : Int32} (hsg : (S j = 60 ∧ sg = 9) ∨ (S j = 61 ∧ sg = 10)) {o2 W2 o W : List Int32} (hl : lay 4 o2 W2 = (o, W)) (v : Int32) (st : Bool) : step (S j) v (o2, W2, false, true, st) = some (o, sg :: W, true, false, false) := by
  rcases hsg with ⟨e, rfl⟩ | ⟨e, rfl⟩
  · rw [step_bin (sg := 9) (by rw [e]; decide) (by rw [e]; rfl) (by decide), show rnk 9 = 4 from rfl, hl]; rfl
  · rw [step_bin (sg := 10) (by rw [e]; decide) (by rw [e]; rfl) (by decide), show rnk 10 = 4 from rfl, hl]; rfl
theorem sg4 {sg : Int32} (h : sg = 9 ∨ sg = 10) : rnk sg = 4 ∧ ∀ W, opn (sg :: W) = opn W := by
  rcases h with rfl | rfl <;> exact ⟨rfl, fun W => rfl⟩
theorem cmp_1 {sg : Int32} (hsg : (S j = 60 ∧ sg = 9) ∨ (S j = 61 ∧ sg = 10)) (hij : i ≤ j) (hj : j + 1 ≤ j2) (h : GL 5 S V op i j c) (h2 : GL 5 S V op (j + 1) j2 c2) : G4 S V op i j2 (c ++ c2 ++ [sg]) := by
  intro o W st ho ht hc
  obtain ⟨o2, W2, st', e, hl⟩ := h o W false st ho (by omega) hc
  obtain ⟨q1, q2⟩ := sg4 (sg := sg) (hsg.elim (fun q => Or.inl q.2) (fun q => Or.inr q.2))
  have hl4 : lay 4 o2 W2 = (o ++ c, W) := by rw [lay_eq (by decide) hl, lay_stop _ ht]
  obtain ⟨o3, W3, st3, e3, hl3⟩ := h2 (o ++ c) (sg :: W) true false (by rw [q2]; exact ho) (by show rnk sg < 5; omega) (fun q => by cases q)
  refine ⟨o3, W3, true, st3, stp_cat hij e (cmp_step hsg hl4 (V j) st') hj e3, ?_, fun _ => rfl⟩
  rw [lay_eq (by decide : 4 ≤ 5) hl3, lay_cons _ (by omega), lay_stop _ ht]
  simp
theorem cmp_f1 {sg : Int32} (hsg : (S j = 60 ∧ sg = 9) ∨ (S j = 61 ∧ sg = 10)) (hij : i ≤ j) (hj : j + 1 ≤ k) (h : GL 5 S V op i j c) (h2 : FL 5 S V op (j + 1) k) : F4 S V op i k := by
  intro o W st ho ht hc
  obtain ⟨o2, W2, st', e, hl⟩ := h o W false st ho (by omega) hc
  obtain ⟨q1, q2⟩ := sg4 (sg := sg) (hsg.elim (fun q => Or.inl q.2) (fun q => Or.inr q.2))
  have hl4 : lay 4 o2 W2 = (o ++ c, W) := by rw [lay_eq (by decide) hl, lay_stop _ ht]
  obtain ⟨x, e3, hx⟩ := h2 (o ++ c) (sg :: W) true false (by rw [q2]; exact ho) (by show rnk sg < 5; omega) (fun q => by cases q)
  exact ⟨x, stp_cat hij e (cmp_step hsg hl4 (V j) st') hj e3, hx⟩
theorem den_0 (hi : ¬ S i = 9) (h : G4 S V op i j c) : G3 S V op i j c := by
  intro o W ho ht
  obtain ⟨o2, W2, cm', st', e, hl, hk⟩ := h o W true ho ht (fun _ => hi)
  exact ⟨o2, W2, cm', st', e, lay_eq (by decide) hl, hk⟩
theorem den_f0 (hi : ¬ S i = 9) (h : F4 S V op i k) : F3 S V op i k := fun o W ho ht => h o W true ho ht (fun _ => hi)
theorem opn_13 (W : List Int32) : opn (13 :: W) = opn W + 1 := rfl
theorem opn_14 (W : List Int32) : opn (14 :: W) = opn W + 1 := rfl
theorem den_step (hi : S i = 9) (ho : ¬ op = 5) {o W : List Int32} (hop : opn W = op) : step (S i) (V i) (o, W, false, false, true) = some (o, 13 :: W, false, false, true) := by
  simp only [step]
  rw [hi, if_neg (by decide), if_neg (by rw [hop]; exact fun q => q.elim (fun q => q (Or.inl ⟨trivial, rfl⟩)) ho), if_neg (by decide), if_pos rfl]
theorem den_1 (hi : S i = 9) (hp : ¬ op = 5) (hj : i + 1 ≤ j) (h : G3 S V (op + 1) (i + 1) j c) : G3 S V op i j (c ++ [13]) := by
  intro o W ho ht
  obtain ⟨o2, W2, cm', st', e, hl, hk⟩ := h o (13 :: W) (by rw [opn_13, ho]) (by show rnk 13 < 4; decide)
  refine ⟨o2, W2, cm', st', stp_front (den_step hi hp ho) hj e, ?_, hk⟩
  rw [hl, lay_cons _ (by decide), List.append_assoc]
theorem den_f1 (hi : S i = 9) (hp : ¬ op = 5) (hj : i + 1 ≤ k) (h : F3 S V (op + 1) (i + 1) k) : F3 S V op i k := by
  intro o W ho ht
  obtain ⟨x, e, hx⟩ := h o (13 :: W) (by rw [opn_13, ho]) (by show rnk 13 < 4; decide)
  exact ⟨x, stp_front (den_step hi hp ho) hj e, hx⟩
theorem den_5 (hi : S i = 9) (hp : op = 5) : F3 S V op i i := by
  intro o W ho ht
  refine ⟨_, by rw [Nat.sub_self]; rfl, ?_, fun _ q => by cases q⟩
  simp only [step]
  rw [hi, if_neg (by decide), if_pos (Or.inr (by omega))]
theorem G3.B (h : G3 S V op i j c) : GB 3 S V op i j c := by
  intro o W ho ht
  obtain ⟨o2, W2, cm', st', e, hl, hk⟩ := h o W ho (by omega)
  exact ⟨o2, W2, cm', st', e, by rw [hl, lay_stop _ ht], hk⟩
theorem F3.B (h : F3 S V op i k) : FB 3 S V op i k := fun o W ho ht => h o W ho (by omega)
theorem bol_step {r : Nat} {sg s : Int32} (hr : r = 1 ∨ r = 2) (hrk : rnk sg = r) (h41 : ¬ s = 41) (hs : ∀ cm, sgn s cm = sg) (h1 : ¬ sg = -1) {o2 W2 o W : List Int32} (hl : lay r o2 W2 = (o, W)) (v : Int32) (cm st : Bool) : step s v (o2, W2, cm, true, st) = some (o, sg :: W, false, false, true) := by
  rw [step_bin h41 (hs cm) h1, hrk, hl]
  rcases hr with rfl | rfl <;> rfl
theorem boo_step {r : Nat} {sg : Int32} (hr : r = 1 ∨ r = 2) (hrk : rnk sg = r) (hop : ∀ W, opn (sg :: W) = opn W) (h41 : ¬ S j = 41) (hs : ∀ cm, sgn (S j) cm = sg) (h1 : ¬ sg = -1) (hij : i ≤ j) (hj : j + 1 ≤ j2) (h : GB r S V op i j c) (h2 : GB (r + 1) S V op (j + 1) j2 c2) : GB r S V op i j2 (c ++ c2 ++ [sg]) := by
  intro o W ho ht
  obtain ⟨o2, W2, cm', st', e, hl, -⟩ := h o W ho ht
  have e2 := bol_step hr hrk h41 hs h1 hl (V j) cm' st'
  obtain ⟨o3, W3, cm3, st3, e3, hl3, hk⟩ := h2 (o ++ c) (sg :: W) (by rw [hop]; exact ho) (by show rnk sg < r + 1; omega)
  refine ⟨o3, W3, cm3, st3, stp_cat hij e e2 hj e3, ?_, hk⟩
  rw [lay_eq (Nat.le_succ r) hl3, lay_cons _ (by omega), lay_stop _ ht]
  simp
theorem boo_fail {r : Nat} {sg : Int32} (hr : r = 1 ∨ r = 2) (hrk : rnk sg = r) (hop : ∀ W, opn (sg :: W) = opn W) (h41 : ¬ S j = 41) (hs : ∀ cm, sgn (S j) cm = sg) (h1 : ¬ sg = -1) (hij : i ≤ j) (hj : j + 1 ≤ k) (h : GB r S V op i j c) (h2 : FB (r + 1) S V op (j + 1) k) : FB r S V op i k := by
  intro o W ho ht
  obtain ⟨o2, W2, cm', st', e, hl, -⟩ := h o W ho ht
  have e2 := bol_step hr hrk h41 hs h1 hl (V j) cm' st'
  obtain ⟨x, e3, hx⟩ := h2 (o ++ c) (sg :: W) (by rw [hop]; exact ho) (by show rnk sg < r + 1; omega)
  exact ⟨x, stp_cat hij e e2 hj e3, hx⟩
/-! ONE -/
theorem one_n {cd : Int32} (h : (S i = 2 ∧ cd = 15 + V i) ∨ (S i = 3 ∧ cd = V i)) : G1 S V op i (i + 1) [cd] := by
  intro o W cm st ho hc
  refine ⟨st, ?_⟩
  rw [show i + 1 - i = 1 by omega]
  refine stp_1 ?_
  simp only [step]
  rcases h with ⟨e, rfl⟩ | ⟨e, rfl⟩
  · rw [e, if_pos (Or.inl rfl), if_pos rfl]
  · rw [e, if_pos (Or.inr rfl), if_neg (by decide)]
theorem one_m (hi : S i = 45) (hp : ¬ op = 5) {o W : List Int32} {cm st : Bool} (hop : opn W = op) : step (S i) (V i) (o, W, cm, false, st) = some (o, 14 :: W, cm, false, false) := by
  simp only [step]
  rw [hi, if_neg (by decide), if_neg (by rw [hop]; exact fun q => q.elim (fun q => q (Or.inr (Or.inl rfl))) hp), if_neg (by decide), if_neg (by decide)]
theorem one_neg (hi : S i = 45) (hp : ¬ op = 5) (hj : i + 1 ≤ j) (h : G1 S V (op + 1) (i + 1) j c) : G1 S V op i j (c ++ [14]) := by
  intro o W cm st ho hc
  obtain ⟨st', e⟩ := h o (14 :: W) cm false (by rw [opn_14, ho]) (fun q => by cases q)
  refine ⟨st', ?_⟩
  rw [lay_cons _ (by decide : 7 ≤ rnk 14), List.append_assoc] at e
  exact stp_front (one_m hi hp ho) hj e
theorem one_fneg (hi : S i = 45) (hp : ¬ op = 5) (hj : i + 1 ≤ k) (h : F1 S V (op + 1) (i + 1) k) : F1 S V op i k := by
  intro o W cm st ho hc
  obtain ⟨x, e, hx⟩ := h o (14 :: W) cm false (by rw [opn_14, ho]) (fun q => by cases q)
  exact ⟨x, stp_front (one_m hi hp ho) hj e, hx⟩
def brk (cm : Bool) : Int32 := if cm then -2 else -1
theorem brk_r (cm : Bool) : rnk (brk cm) = 0 ∧ (∀ W, opn (brk cm :: W) = opn W + 1) ∧ decide (brk cm = -2) = cm := by cases cm <;> exact ⟨rfl, fun _ => rfl, rfl⟩
theorem one_p (hi : S i = 40) (hp : ¬ op = 5) {o W : List Int32} {cm st : Bool} (hop : opn W = op) : step (S i) (V i) (o, W, cm, false, st) = some (o, brk cm :: W, false, false, true) := by
  simp only [step]
  rw [hi, if_neg (by decide), if_neg (by rw [hop]; exact fun q => q.elim (fun q => q (Or.inr (Or.inr rfl))) hp), if_pos rfl]
  rfl
theorem one_par (hi : S i = 40) (hp : ¬ op = 5) (hj : i + 1 ≤ j) (h41 : S j = 41) (h : GB 1 S V (op + 1) (i + 1) j c) : G1 S V op i (j + 1) c := by
  intro o W cm st ho hc
  obtain ⟨b0, b1, b2⟩ := brk_r cm
  obtain ⟨o2, W2, cm', st', e, hl, -⟩ := h o (brk cm :: W) (by rw [b1, ho]) (by show rnk (brk cm) < 1; omega)
  refine ⟨st', stp_back (by omega) (stp_front (one_p hi hp ho) hj e) ?_⟩
  simp only [step]
  rw [if_pos h41, hl]
  simp only [b2]
theorem one_fpar (hi : S i = 40) (hp : ¬ op = 5) (hj : i + 1 ≤ k) (h : FB 1 S V (op + 1) (i + 1) k) : F1 S V op i k := by
  intro o W cm st ho hc
  obtain ⟨b0, b1, b2⟩ := brk_r cm
  obtain ⟨x, e, hx⟩ := h o (brk cm :: W) (by rw [b1, ho]) (by show rnk (brk cm) < 1; omega)
  exact ⟨x, stp_front (one_p hi hp ho) hj e, hx⟩
/-- what can't stand behind a whole E -/
def fol (s : Int32) : Prop := ¬ s = 42 ∧ ¬ s = 43 ∧ ¬ s = 45 ∧ ¬ s = 8 ∧ ¬ s = 7
theorem sgn_fol {s : Int32} {cm : Bool} (h : fol s) (hk : cmk s cm) : sgn s cm = -1 := by
  obtain ⟨h1, h2, h3, h4, h5⟩ := h
  unfold sgn
  rw [if_neg h1, if_neg h2, if_neg h3]
  by_cases a : s = 60
  · rw [if_pos a, hk (Or.inl a)]; rfl
  · rw [if_neg a]
    by_cases b : s = 61
    · rw [if_pos b, hk (Or.inr b)]; rfl
    · rw [if_neg b, if_neg h4, if_neg h5]
theorem one_mis (hi : S i = 40) (hp : ¬ op = 5) (hj : i + 1 ≤ j) (h41 : ¬ S j = 41) (hfo : fol (S j)) (h : GB 1 S V (op + 1) (i + 1) j c) : F1 S V op i j := by
  intro o W cm st ho hc
  obtain ⟨b0, b1, b2⟩ := brk_r cm
  obtain ⟨o2, W2, cm', st', e, hl, hk⟩ := h o (brk cm :: W) (by rw [b1, ho]) (by show rnk (brk cm) < 1; omega)
  refine ⟨_, stp_front (one_p hi hp ho) hj e, ?_, fun _ _ => ?_⟩
  · simp only [step]
    rw [if_neg h41, if_pos (sgn_fol hfo hk)]
  · simp only
    rw [hl]
    simp
theorem one_bad (h : ¬ S i = 2 ∧ ¬ S i = 3) (h2 : ¬ ((S i = 45 ∨ S i = 40) ∧ ¬ op = 5)) : F1 S V op i i := by
  intro o W cm st ho hc
  refine ⟨_, by rw [Nat.sub_self]; rfl, ?_, fun _ q => by cases q⟩
  simp only [step]
  rw [if_neg (fun q => q.elim h.1 h.2), if_pos]
  by_cases a : op = 5
  · exact Or.inr (ho.trans a)
  · refine Or.inl (fun q => ?_)
    rcases q with q | q
    · exact hc q.1 q.2
    · exact h2 ⟨q, a⟩
end LEV

