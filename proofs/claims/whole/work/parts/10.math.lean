/-! ===== a day, as both sides mean it ===== -/
/-- a day: 0 joys, 1 .. 6 of seams: kind, number, first, last, worn, burst; 7: how many, the date, the rule's own number -/
abbrev DV : Type := Nat → Nat → Int32
/-- texts: by number and part the steps -/
abbrev XV : Type := Nat → Nat → List Int32
def dn (D : DV) : Nat := (D 7 0).toNatClampNeg
def fi (D : DV) (s : Nat) : Nat := (D 3 s).toNatClampNeg
def la (D : DV) (s : Nat) : Nat := (D 4 s).toNatClampNeg
/-- the rule, by its own number: 8 and 4 times the text's -/
def rix (D : DV) : Nat := (D 7 2).toNatClampNeg
def isN (x : Int32) (hi : Nat) : Prop := ∃ k, k < hi ∧ x = nI k
def wfS (D : DV) (s : Nat) : Prop := D 3 s = nI (fi D s) ∧ D 4 s = nI (la D s) ∧ fi D s ≤ la D s ∧ la D s < 16 ∧ isN (D 5 s) 10000 ∧ (D 6 s = 0 ∨ D 6 s = 1) ∧ isN (D 1 s) 6 ∧ isN (D 2 s) 10
/-- a good day, with T texts -/
def wfD (D : DV) (T : Nat) : Prop := D 7 0 = nI (dn D) ∧ dn D ≤ 7 ∧ (∀ s, s < dn D → wfS D s) ∧ (∃ t, t < T ∧ D 7 2 = nI (8 + 4 * t)) ∧ T ≤ 6
/-- the class's day at q -/
def dv (M : MM) (q : Nat) : DV := fun f i =>
  if f = 0 then (if i < 16 then M (q + 1) i else 0)
  else if f < 7 then (if i < (M q 6).toNatClampNeg then M (q + 5 + i) (f - 1) else 0)
  else if f = 7 then (if i = 0 then M q 6 else if i = 1 then M q 5 else if i = 2 then M q 4 else 0) else 0
theorem dv_70 (M : MM) (q : Nat) : dv M q 7 0 = M q 6 := rfl
theorem dv_71 (M : MM) (q : Nat) : dv M q 7 1 = M q 5 := rfl
theorem dv_72 (M : MM) (q : Nat) : dv M q 7 2 = M q 4 := rfl
theorem dv_n (M : MM) (q : Nat) : dn (dv M q) = (M q 6).toNatClampNeg := rfl
theorem dv_0 (M : MM) (q : Nat) {h : Nat} (hh : h < 16) : dv M q 0 h = M (q + 1) h := by simp [dv, hh]
theorem dv_s {M : MM} {q s : Nat} (j : Nat) (hj : j < 6) (hs : s < dn (dv M q)) : dv M q (j + 1) s = M (q + 5 + s) j := by
  rw [dv_n] at hs
  simp only [dv]
  rw [if_neg (by omega), if_pos (by omega), if_pos hs]; rfl
theorem dv_ext {M M' : MM} {q : Nat} (h0 : ∀ h, h < 16 → M' (q + 1) h = M (q + 1) h) (h1 : ∀ j, j = 4 ∨ j = 5 ∨ j = 6 → M' q j = M q j) (h2 : ∀ s j, s < dn (dv M q) → j < 6 → M' (q + 5 + s) j = M (q + 5 + s) j) : dv M' q = dv M q := by
  funext f i
  simp only [dv, h1 4 (Or.inl rfl), h1 5 (Or.inr (Or.inl rfl)), h1 6 (Or.inr (Or.inr rfl))]
  rw [dv_n] at h2
  split
  · split
    · next h => exact h0 i h
    · rfl
  · split
    · split
      · next h => exact h2 i _ h (by omega)
      · rfl
    · rfl
/-- an equality of days, place by place -/
theorem dv_eq {M : MM} {q : Nat} {D : DV} (hz : ∀ f i, (f = 0 ∧ 16 ≤ i) ∨ (0 < f ∧ f < 7 ∧ dn D ≤ i) ∨ (f = 7 ∧ 3 ≤ i) ∨ 8 ≤ f → D f i = 0) (h0 : ∀ h, h < 16 → M (q + 1) h = D 0 h) (h7 : M q 6 = D 7 0 ∧ M q 5 = D 7 1 ∧ M q 4 = D 7 2) (h2 : ∀ s j, s < dn D → j < 6 → M (q + 5 + s) j = D (j + 1) s) : dv M q = D := by
  funext f i
  have hn : (M q 6).toNatClampNeg = dn D := by rw [h7.1]; rfl
  simp only [dv, hn]
  split
  · next e => subst e; split
              · next h => exact h0 i h
              · exact (hz 0 i (Or.inl ⟨rfl, by omega⟩)).symm
  · split
    · split
      · next h =>
        rw [h2 i (f - 1) h (by omega)]
        congr 1; omega
      · exact (hz f i (Or.inr (Or.inl ⟨by omega, by omega, by omega⟩))).symm
    · split
      · next e =>
        subst e
        split
        · next e => subst e; exact h7.1
        · split
          · next e => subst e; exact h7.2.1
          · split
            · next e => subst e; exact h7.2.2
            · exact (hz 7 i (Or.inr (Or.inr (Or.inl ⟨rfl, by omega⟩)))).symm
      · exact (hz f i (Or.inr (Or.inr (Or.inr (by omega))))).symm
/-! texts -/
def joi (c a b : Int32) : Int32 :=
  if c = -13 then b2i (¬ a = 0 ∨ ¬ b = 0) else if c = -14 then b2i (¬ a = 0 ∧ ¬ b = 0) else if c = -15 then b2i (a < b) else if c = -16 then b2i (a = b) else if c = -17 then a + b else if c = -18 then a - b else a * b
/-- a step upon a pile (the top ahead) -/
def vst (fc : Nat → Int32) (c : Int32) (k : List Int32) : List Int32 :=
  if 0 ≤ c then c :: k else if -6 ≤ c then fc (-1 - c).toNatClampNeg :: k else match k with
  | [] => []
  | a :: r => if c = -11 then -a :: r else if c = -12 then b2i (a = 0) :: r else match r with
    | [] => [a]
    | b :: r => joi c b a :: r
def vls (fc : Nat → Int32) : List Int32 → List Int32 → List Int32
  | [], k => k
  | c :: t, k => vls fc t (vst fc c k)
def val (cs : List Int32) (fc : Nat → Int32) : Int32 := (vls fc cs []).headD 0
/-- how high a pile is behind steps that can be done; none else -/
def dst (c : Int32) (n : Nat) : Option Nat :=
  if 0 ≤ c then some (n + 1) else if -6 ≤ c then some (n + 1) else if c = -11 ∨ c = -12 then (if 1 ≤ n then some n else none) else if -19 ≤ c ∧ c ≤ -13 then (if 2 ≤ n then some (n - 1) else none) else none
def dls : List Int32 → Nat → Option Nat
  | [], n => some n
  | c :: t, n => match dst c n with | some m => dls t m | none => none
def wfX (cs : List Int32) : Prop := dls cs 0 = some 1
/-! a day's own sums -/
def whl (D : DV) : Nat → Int32
  | 0 => 0
  | s + 1 => whl D s + (if D 6 s = 0 then 1 else 0)
def lenS' (D : DV) (s : Nat) : Int32 := D 4 s - D 3 s + 1
/-- what the names mean of a seam: length, worn, number, joy, day, seams -/
def fct (D : DV) (s : Nat) (j : Int32) : Nat → Int32
  | 0 => lenS' D s
  | 1 => D 5 s
  | 2 => D 2 s
  | 3 => j
  | 4 => D 7 1
  | _ => whl D (dn D)
def rul (X : XV) (D : DV) (p s : Nat) (j : Int32) : Int32 := val (X (rix D) p) (fct D s j)
def kindP (k v len num : Int32) : Int32 := if k = 1 then v / 2 else if k = 2 then bnd (v + 2) 99 else if k = 3 then (if len ≤ 3 then 0 else v / 2) else if k = 4 then bnd (v + 2 + num) 99 else if k = 5 then len else v
def kindW (k v num date : Int32) : Int32 := if k = 1 then bnd (2 * v) 99 else if k = 3 then bnd (2 * v + num) 99 else if k = 4 then (if date - date / 2 * 2 = 0 then v / 2 else v) else if k = 5 then 9 else v
def kindS (k v len num : Int32) : Int32 := if k = 2 then bnd (v + len) 999 else if k = 3 then v / 2 else if k = 4 then bnd (2 * (v + len)) 999 else if k = 5 then 10 + num else v
def pul (X : XV) (D : DV) (s h : Nat) : Int32 := kindP (D 1 s) (bnd (rul X D 0 s (D 0 h)) 99) (lenS' D s) (D 2 s)
def wea (X : XV) (D : DV) (s : Nat) : Int32 := kindW (D 1 s) (bnd (rul X D 1 s 0) 99) (D 2 s) (D 7 1)
def sta (X : XV) (D : DV) (s : Nat) : Int32 := kindS (D 1 s) (bnd (rul X D 2 s 0) 999) (lenS' D s) (D 2 s)
/-- which hours are gone by the first n seams -/
def gonN (D : DV) : Nat → Nat → Bool
  | 0, _ => false
  | s + 1, h => gonN D s h || (decide (D 6 s = 0) && decide (fi D s ≤ h) && decide (h ≤ la D s))
def gon (D : DV) (h : Nat) : Bool := gonN D (dn D) h
def ahd (gn : Nat → Bool) : Nat → Int32
  | 0 => -1
  | h + 1 => if gn h then ahd gn h else nI h
def bhd (gn : Nat → Bool) : Nat → Nat → Int32
  | 0, _ => -1
  | k + 1, h => if gn h then bhd gn k (h + 1) else nI h
def pa (f : Nat → Int32) (h : Int32) (v : Nat → Int32) : Nat → Int32 := if 0 ≤ h then upd f h.toNatClampNeg (f h.toNatClampNeg + v h.toNatClampNeg) else f
def hA (D : DV) (s : Nat) : Int32 := ahd (gon D) (fi D s)
def hB (D : DV) (s : Nat) : Int32 := bhd (gon D) (15 - la D s) (la D s + 1)
/-- how much is pulled, by the first n seams -/
def strn (X : XV) (D : DV) : Nat → Nat → Int32
  | 0 => fun _ => 0
  | s + 1 => if D 6 s = 0 then pa (pa (strn X D s) (hA D s) (pul X D s)) (hB D s) (pul X D s) else strn X D s
def edg (D : DV) : Nat → Nat → Bool
  | 0, _ => false
  | s + 1, h => edg D s h || (decide (D 6 s = 0) && (decide (hA D s = nI h) || decide (hB D s = nI h)))
def gld (X : XV) (D : DV) (h : Nat) : Int32 := if gon D h then 0 else if D 0 h - strn X D (dn D) h < -999 then -999 else D 0 h - strn X D (dn D) h
def sumI (f : Nat → Int32) : Nat → Int32
  | 0 => 0
  | n + 1 => sumI f n + f n
def wor (X : XV) (D : DV) : Int32 := sumI (gld X D) 16
/-! stretch, tightest, a day's passing -/
def stn (gn : Nat → Bool) : Nat → Int32
  | 0 => 0
  | h + 1 => if gn h then 0 else stn gn h + 1
def stm (gn : Nat → Bool) : Nat → Int32
  | 0 => 0
  | h + 1 => if stm gn h < stn gn (h + 1) then stn gn (h + 1) else stm gn h
def tgt (X : XV) (D : DV) : Nat → Int32
  | 0 => -1
  | h + 1 => if edg D (dn D) h = true ∧ (tgt X D h = -1 ∨ strn X D (dn D) (tgt X D h).toNatClampNeg < strn X D (dn D) h) then nI h else tgt X D h
def cap (x : Int32) : Int32 := if x < 9999 then x else 9999
/-- the first n seams worn by a day -/
def wr1 (X : XV) (D : DV) (n : Nat) : DV := fun f i => if f = 5 ∧ i < n ∧ D 6 i = 0 then cap (D 5 i + wea X D i) else D f i
def brs (X : XV) (D : DV) (s : Nat) : DV := if D 6 s = 0 ∧ sta X D s ≤ D 5 s then (fun f i => if f = 6 ∧ i = s then 1 else D f i) else D
def brn (X : XV) (D : DV) : Nat → DV
  | 0 => D
  | s + 1 => brs X (brn X D s) s
def bbn (X : XV) (D : DV) : Nat → Int32
  | 0 => 0
  | s + 1 => if brn X D s 6 s = 0 ∧ sta X (brn X D s) s ≤ brn X D s 5 s then bbn X D s ||| (1 <<< (nI s &&& 31)) else bbn X D s
def dayD (D : DV) : DV := fun f i => if f = 7 ∧ i = 1 then D 7 1 + 1 else D f i
def pasD (X : XV) (D : DV) : DV := dayD (brn X (wr1 X D (dn D)) (dn D))
def pasB (X : XV) (D : DV) : Int32 := bbn X (wr1 X D (dn D)) (dn D)

