/-- a ghost of a yard; in a STEP: 9 who STAYS, 10 of which TRAIN that one is then -/
abbrev GH : Type := Nat → Nat → Nat
/-- of those with p the least by c, the first of like ones; one more, 0 if there is none -/
def bbt (p : Nat → Bool) (c : Nat → Nat) : Nat → Nat
  | 0 => 0
  | n + 1 => if p n = true ∧ (bbt p c n = 0 ∨ c n < c (bbt p c n - 1)) then n + 1 else bbt p c n
theorem bbt_succ (p : Nat → Bool) (c : Nat → Nat) (n : Nat) : bbt p c (n + 1) = if p n = true ∧ (bbt p c n = 0 ∨ c n < c (bbt p c n - 1)) then n + 1 else bbt p c n := rfl
theorem bbt_le (p : Nat → Bool) (c : Nat → Nat) : ∀ n, bbt p c n ≤ n
  | 0 => Nat.le_refl 0
  | n + 1 => by
    have := bbt_le p c n
    rw [bbt_succ]
    split <;> omega
theorem bbt_at {p : Nat → Bool} {c : Nat → Nat} : ∀ {n : Nat}, bbt p c n ≠ 0 → p (bbt p c n - 1) = true ∧ ∀ t, t < n → p t = true → c (bbt p c n - 1) ≤ c t := by
  intro n
  induction n with
  | zero => intro h; exact absurd rfl h
  | succ n ih =>
    rw [bbt_succ]
    intro h
    by_cases q : p n = true ∧ (bbt p c n = 0 ∨ c n < c (bbt p c n - 1))
    · rw [if_pos q]
      refine ⟨q.1, fun t ht hp => ?_⟩
      rw [Nat.add_sub_cancel]
      by_cases e : t = n
      · subst e; exact Nat.le_refl _
      · by_cases z : bbt p c n = 0
        · exfalso
          have : ∀ m, t < m → bbt p c m ≠ 0 := by
            intro m
            induction m with
            | zero => intro h; omega
            | succ m ihm =>
              intro hm
              rw [bbt_succ]
              by_cases e2 : t = m
              · subst e2
                by_cases z2 : bbt p c t = 0
                · rw [if_pos ⟨hp, Or.inl z2⟩]; omega
                · split
                  · omega
                  · exact z2
              · have := ihm (by omega)
                split
                · omega
                · exact this
          exact this n (by omega) z
        · have := (ih z).2 t (by omega) hp
          have := q.2.resolve_left z
          omega
    · rw [if_neg q] at h ⊢
      refine ⟨(ih h).1, fun t ht hp => ?_⟩
      by_cases e : t = n
      · subst e
        have := fun z => q ⟨hp, z⟩
        have h2 : ¬ c t < c (bbt p c t - 1) := fun z => this (Or.inr z)
        omega
      · exact (ih h).2 t (by omega) hp
theorem bbt_none {p : Nat → Bool} {c : Nat → Nat} : ∀ {n : Nat}, bbt p c n = 0 ↔ ∀ t, t < n → p t = false := by
  intro n
  induction n with
  | zero => exact ⟨fun _ t h => absurd h (Nat.not_lt_zero t), fun _ => rfl⟩
  | succ n ih =>
    rw [bbt_succ]
    constructor
    · intro h t ht
      by_cases q : p n = true ∧ (bbt p c n = 0 ∨ c n < c (bbt p c n - 1))
      · rw [if_pos q] at h; omega
      · rw [if_neg q] at h
        by_cases e : t = n
        · subst e
          exact Bool.eq_false_iff.mpr (fun z => q ⟨z, Or.inl h⟩)
        · exact ih.mp h t (by omega)
    · intro h
      rw [if_neg (fun q => by rw [h n (by omega)] at q; exact absurd q.1 (by decide))]
      exact ih.mpr (fun t ht => h t (by omega))
theorem bbt_eq {p : Nat → Bool} {c : Nat → Nat} {n t : Nat} (ht : t < n) (hp : p t = true) (hu : ∀ u, u < n → p u = true → u ≠ t → c t < c u) : bbt p c n = t + 1 := by
  by_cases z : bbt p c n = 0
  · rw [bbt_none.mp z t ht] at hp; exact absurd hp (by decide)
  · obtain ⟨a, b⟩ := bbt_at z
    have l := bbt_le p c n
    by_cases e : bbt p c n - 1 = t
    · omega
    · have h1 := hu _ (by omega) a e
      have h2 := b t ht hp
      omega
theorem bbt_cong {p q : Nat → Bool} {c d : Nat → Nat} : ∀ {n : Nat}, (∀ t, t < n → p t = q t) → (∀ t, t < n → q t = true → c t = d t) → bbt p c n = bbt q d n := by
  intro n
  induction n with
  | zero => intro _ _; rfl
  | succ n ih =>
    intro h1 h2
    have e := ih (fun t ht => h1 t (by omega)) (fun t ht => h2 t (by omega))
    rw [bbt_succ, bbt_succ, h1 n (by omega), e]
    by_cases hq : q n = true
    · by_cases z : bbt q d n = 0
      · simp [z]
      · have l := bbt_le q d n
        rw [h2 n (by omega) hq, h2 (bbt q d n - 1) (by omega) (bbt_at z).1]
    · rw [if_neg (fun x => hq x.1), if_neg (fun x => hq x.1)]
section GS
variable (h : GH)
/-- of which TRAIN one is now -/
def gTn (t : Nat) : Nat := if h 9 t = 1 then h 10 t else h 1 t
/-- it waits in the first CAR -/
def gWt (t : Nat) : Bool := decide (0 < h 0 t ∧ h 1 t = 0 ∧ h 2 t = 0 ∧ h 9 t = 0)
/-- the first other TRAIN from which a LINK is to it; 0 if none -/
def gCb (t : Nat) : Nat := bcl (fun u => decide (0 < h 0 u ∧ gLk h u t = true)) (gTn h) 40
def gBs (t : Nat) : Bool := bex (fun u => decide (0 < h 0 u ∧ gLk h u t = true ∧ gTn h u = 0 ∧ ¬ gWt h u = true)) 40 0
def gBy (r t : Nat) : Bool := if r = 1 then gRt h t else if r = 2 then decide (h 5 t = 1) else if r = 3 then decide (gCb h t ≠ 0) else gBs h t
def gFb (r : Nat) : Nat := bbt (fun t => gWt h t && gBy h r t) (h 3) 40
/-- by which rule who goes next; one more -/
def gPk : Nat × Nat := if gFb h 1 ≠ 0 then (1, gFb h 1) else if gFb h 2 ≠ 0 then (2, gFb h 2) else if gFb h 3 ≠ 0 then (3, gFb h 3) else (4, gFb h 4)
/-- refs of one that waits -/
def gRf (t : Nat) : Nat := fb_ct (fun k => decide (h 7 k = t + 1)) 8 + fb_sm (fun u => if 0 < h 0 u ∧ ¬ gWt h u = true then fb_ct (fun k => decide (h 6 (4 * u + k) = t + 1)) 4 else 0) 40
/-- CARS of a TRAIN, one left out -/
def gNl (t w : Nat) : Nat := bmx (fun u => decide (0 < h 0 u ∧ u ≠ t ∧ h 1 u = w)) (h 2) 40
def gLd (t w u : Nat) : Bool := decide (0 < h 0 u ∧ u ≠ t ∧ h 1 u = w ∧ h 2 u + 1 = gNl h t w)
def gNw (t w U : Nat) : Bool := decide (gNl h t w = 0 ∨ U < fb_sm (fun u => if gLd h t w u = true then h 0 u else 0) 40 + h 0 t)
def gLay (t w U : Nat) : GH := gset (gset (gset h 1 t w) 2 t (if gNw h t w U = true then gNl h t w else gNl h t w - 1)) 3 t (if gNw h t w U = true then 0 else fb_ct (gLd h t w) 40)
/-- how many TRAINS, CARS -/
def gTr : Nat := bmx (fun t => decide (0 < h 0 t)) (h 1) 40
def gCa (w : Nat) : Nat := bmx (fun t => decide (0 < h 0 t ∧ h 1 t = w)) (h 2) 40
end GS
abbrev GP : Type := (Nat → Nat → Nat → Nat → Bool) × (Nat → Nat → Nat → Nat → Nat) × Nat
/-- in a STEP: the ghost, how many TRAINS with a new one, of which TRAIN those that STAY will be (one more), all by rule 4, how many went, their costs -/
abbrev GM : Type := GH × Nat × Nat × Bool × Nat × Nat
def gTo (X : GM) (r t : Nat) : Nat := if r < 3 then (if X.2.1 = 1 then 1 else X.2.1 - 1) else if r = 3 then gCb X.1 t else 0
def gTT (X : GM) (r : Nat) : Nat := if r < 3 ∧ X.2.1 = 1 then 2 else X.2.1
def gMv (P : GP) (X : GM) (r t : Nat) : GM :=
  if P.1 (X.1 8 0) (X.1 0 t) (gRf X.1 t) (X.1 4 t) = true then
    (gset (gset (gset X.1 9 t 1) 10 t (gTo X r t)) 5 t 0, gTT X r, if X.2.2.1 = 0 then gTo X r t + 1 else X.2.2.1, X.2.2.2.1 && decide (r = 4), X.2.2.2.2.1 + 1, X.2.2.2.2.2)
  else
    (gset (gLay X.1 t (gTo X r t) P.2.2) 5 t 0, gTT X r, X.2.2.1, X.2.2.2.1 && decide (r = 4), X.2.2.2.2.1 + 1, X.2.2.2.2.2 + P.2.1 (X.1 8 0) (X.1 0 t) (gRf X.1 t) (X.1 4 t))
def gLp (P : GP) : Nat → GM → GM
  | 0, X => X
  | n + 1, X => if (gPk X.1).2 = 0 then X else gLp P n (gMv P X (gPk X.1).1 ((gPk X.1).2 - 1))
/-- what FALLS is no more -/
def gDr (h : GH) (p : Nat → Bool) : GH := fun a b => if (a = 0 ∨ a = 4 ∨ a = 5) ∧ p b = true then 0 else if a = 6 ∧ p (b / 4) = true then 0 else h a b
/-- those that STAYED get their CAR -/
def gPs (h : GH) (s : Nat) : GH := fun a b =>
  if s ≠ 0 ∧ h 9 b = 1 then
    (if a = 1 then s - 1 else if a = 2 then bmx (fun t => decide (0 < h 0 t ∧ h 9 t ≠ 1 ∧ h 1 t = s - 1)) (h 2) 40 else if a = 3 then fb_ct (fun u => decide (h 9 u = 1 ∧ h 3 u < h 3 b)) 40 else if a = 9 then 0 else h a b)
  else h a b
/-- the first CAR, or TRAIN, is no more -/
def gSh (h : GH) : GH := fun a b =>
  if bex (fun t => decide (0 < h 0 t ∧ h 1 t = 0)) 40 0 = true then (if a = 2 ∧ h 1 b = 0 then h 2 b - 1 else h a b) else (if a = 1 then h 1 b - 1 else h a b)
/-- one is outside the first TRAIN -/
def gOut (h : GH) (t : Nat) : Bool := gRt h t || decide (gCb h t ≠ 0)
def gWant (h : GH) : Bool := bex (fun t => decide (0 < h 0 t ∧ h 1 t = 0 ∧ gOut h t = true)) 40 0
def gMk1 (h : GH) : Bool := bex (fun t => decide (0 < h 0 t ∧ h 1 t = 0 ∧ h 5 t = 1)) 40 0
def gMkB (h : GH) : Nat := bbt (fun t => decide (0 < h 0 t ∧ h 1 t = 0 ∧ gOut h t = true)) (fun t => 1000 * h 2 t + h 3 t) 40
def gMk (h : GH) : GH := if gMk1 h = true then h else if gMkB h = 0 then h else gset h 5 (gMkB h - 1) 1
/-- a STEP is over -/
def gPa (h : GH) : GH := fun a b => if a = 4 ∧ 0 < h 0 b ∧ h 4 b < 99 then h 4 b + 1 else if a = 8 ∧ b = 0 then h 8 0 + 1 else h a b
/-- a STEP: the ghost, how many FELL, WENT or STAYED, what it costs, FUTILE -/
def gTick (P : GP) (g : GH) : GH × Nat × Nat × Nat × Bool :=
  if gTr g = 0 then (gPa g, 0, 0, 0, false)
  else if gWant g = true then
    let X := gLp P 40 (g, gTr g, 0, true, 0, 0)
    let n := fb_ct (gWt X.1) 40
    let h := gSh (gPs (gDr X.1 (gWt X.1)) X.2.2.1)
    let f := decide (n = 0) && X.2.2.2.1
    (gPa (if f = true then gMk h else h), n, X.2.2.2.2.1, X.2.2.2.2.2, f)
  else (gPa (gSh (gDr g (fun t => decide (0 < g 0 t ∧ g 1 t = 0)))), fb_ct (fun t => decide (0 < g 0 t ∧ g 1 t = 0)) 40, 0, 0, false)
/-- how things ride -/
def gW (g : GH) : Prop :=
  (∀ t, t < 40 → g 0 t ≤ 99 ∧ g 4 t ≤ 99 ∧ g 5 t ≤ 1 ∧ (g 0 t = 0 → g 5 t = 0) ∧ g 9 t = 0) ∧
  (∀ t, t < 40 → 0 < g 0 t → ∀ w, w < g 1 t → ∃ u, u < 40 ∧ 0 < g 0 u ∧ g 1 u = w) ∧
  (∀ t, t < 40 → 0 < g 0 t → ∀ c, c < g 2 t → ∃ u, u < 40 ∧ 0 < g 0 u ∧ g 1 u = g 1 t ∧ g 2 u = c) ∧
  (∀ t, t < 40 → 0 < g 0 t → ∀ p, p < g 3 t → ∃ u, u < 40 ∧ 0 < g 0 u ∧ g 1 u = g 1 t ∧ g 2 u = g 2 t ∧ g 3 u = p) ∧
  (∀ t u, t < 40 → u < 40 → 0 < g 0 t → 0 < g 0 u → g 1 t = g 1 u → g 2 t = g 2 u → g 3 t = g 3 u → t = u) ∧
  gok (gTh g) g ∧ (∀ t, t < 40 → g 0 t = 0 → ∀ k, k < 4 → g 6 (4 * t + k) = 0)
