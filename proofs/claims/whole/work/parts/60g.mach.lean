/-- a frame of the reference's machine: what it is, its phase, whether it begins, what ends it, what waits in it (the last first) -/
abbrev Fr : Type := Nat × Nat × Bool × Nat × List Nat
/-- a state of it: an operand stands before, the sign, how many are open, the codes, the frames (the innermost first) -/
abbrev MS : Type := Bool × Nat × Nat × List (Nat × Nat) × List Fr
def mRk (x : Nat) : Nat := if x = 42 then 1 else if x = 41 then 2 else if x = 43 then 3 else if x = 38 ∨ x = 39 ∨ x = 40 then 4 else if x = 31 ∨ x = 32 then 5 else 6
def mTs (x : Nat) : Bool := decide (x = 1 ∨ x = 5 ∨ x = 6)
/-- those that wait are laid, from the last on, down to a rank -/
def mJn (r : Nat) : List Nat → Nat → List (Nat × Nat) → List Nat × Nat × List (Nat × Nat)
  | [], o, L => ([], o, L)
  | x :: p, o, L => if r ≤ mRk x then mJn r p (if x = 43 then o - 1 else o) (L ++ [(x, 0)]) else (x :: p, o, L)
def mEm (p : List Nat) : List (Nat × Nat) := p.map (fun x => (x, 0))
def mCt : List Nat → Nat
  | [] => 0
  | x :: p => (if x = 43 then 1 else 0) + mCt p
section MA
variable (K V St : Nat → Nat) (lw : Nat)
def mOp (X : MS) (F : Fr) (R : List Fr) : MS ⊕ NR :=
  let first := mTs F.1 && F.2.2.1
  if K X.2.1 = 1 then .inr (nBad 1 (V X.2.1))
  else if (first && gOw K V X.2.1 20) = true then (if X.2.2.1 = 7 then .inr (nBad 5 (St X.2.1)) else .inl ⟨false, X.2.1 + 1, X.2.2.1 + 1, X.2.2.2.1, ⟨F.1, F.2.1, F.2.2.1, F.2.2.2.1, 43 :: F.2.2.2.2⟩ :: R⟩)
  else if (first && gSg K V X.2.1 91) = true then (if X.2.2.1 = 7 then .inr (nBad 5 (St X.2.1)) else .inl ⟨false, X.2.1 + 1, X.2.2.1 + 1, X.2.2.2.1, ⟨5, 0, true, 0, []⟩ :: ⟨F.1, F.2.1, false, F.2.2.2.1, F.2.2.2.2⟩ :: R⟩)
  else if (first && gOw K V X.2.1 21) = true then .inl ⟨true, X.2.1 + 1, X.2.2.1, X.2.2.2.1 ++ [(30, 0)], ⟨F.1, 2, false, F.2.2.2.1, F.2.2.2.2⟩ :: R⟩
  else if gSg K V X.2.1 40 = true then (if X.2.2.1 = 7 then .inr (nBad 5 (St X.2.1)) else .inl ⟨false, X.2.1 + 1, X.2.2.1 + 1, X.2.2.2.1, ⟨2, 0, true, 0, []⟩ :: ⟨F.1, F.2.1, false, F.2.2.2.1, F.2.2.2.2⟩ :: R⟩)
  else if gOw K V X.2.1 22 = true ∨ gOw K V X.2.1 23 = true ∨ gOw K V X.2.1 17 = true then
    (if gSg K V (X.2.1 + 1) 40 = true then (if X.2.2.1 = 7 then .inr (nBad 5 (St (X.2.1 + 1))) else .inl ⟨false, X.2.1 + 2, X.2.2.1 + 1, X.2.2.2.1, ⟨if gOw K V X.2.1 17 = true then 6 else 3, 0, true, if gOw K V X.2.1 17 = true then 44 else if gOw K V X.2.1 22 = true then 36 else 37, []⟩ :: ⟨F.1, F.2.1, false, F.2.2.2.1, F.2.2.2.2⟩ :: R⟩) else .inr (nBad 1 (gWh K V St (X.2.1 + 1))))
  else if K X.2.1 = 2 then .inl ⟨true, X.2.1 + 1, X.2.2.1, X.2.2.2.1 ++ [(0, V X.2.1)], ⟨F.1, F.2.1, false, F.2.2.2.1, F.2.2.2.2⟩ :: R⟩
  else if gFt K V lw X.2.1 ≠ 0 then .inl ⟨true, X.2.1 + 1, X.2.2.1, X.2.2.2.1 ++ [(gFt K V lw X.2.1, 0)], ⟨F.1, F.2.1, false, F.2.2.2.1, F.2.2.2.2⟩ :: R⟩
  else .inr (nBad 1 (St X.2.1))
def mGo (X : MS) (F : Fr) (R : List Fr) : MS ⊕ NR :=
  if K X.2.1 = 1 then .inr (nBad 1 (V X.2.1))
  else if F.2.1 < 2 ∧ gWk K V X.2.1 ≠ 0 then (let j := mJn 5 F.2.2.2.2 X.2.2.1 X.2.2.2.1; .inl ⟨false, X.2.1 + 1, j.2.1, j.2.2, ⟨F.1, F.2.1, F.2.2.1, F.2.2.2.1, gWk K V X.2.1 :: j.1⟩ :: R⟩)
  else if F.2.1 < 2 ∧ gSt K V X.2.1 ≠ 0 then (let j := mJn 6 F.2.2.2.2 X.2.2.1 X.2.2.2.1; .inl ⟨false, X.2.1 + 1, j.2.1, j.2.2, ⟨F.1, F.2.1, F.2.2.1, F.2.2.2.1, gSt K V X.2.1 :: j.1⟩ :: R⟩)
  else if mTs F.1 = true ∧ F.2.1 = 0 ∧ gCm K V X.2.1 ≠ 0 then (let j := mJn 5 F.2.2.2.2 X.2.2.1 X.2.2.2.1; .inl ⟨false, X.2.1 + 1, j.2.1, j.2.2, ⟨F.1, 1, F.2.2.1, F.2.2.2.1, gCm K V X.2.1 :: j.1⟩ :: R⟩)
  else if mTs F.1 = true ∧ F.2.1 = 0 then .inr (nBad 1 (St X.2.1))
  else if mTs F.1 = true ∧ gOw K V X.2.1 19 = true then (let j := mJn 2 F.2.2.2.2 X.2.2.1 X.2.2.2.1; .inl ⟨false, X.2.1 + 1, j.2.1, j.2.2, ⟨F.1, 0, true, F.2.2.2.1, 41 :: j.1⟩ :: R⟩)
  else if mTs F.1 = true ∧ gOw K V X.2.1 18 = true then (let j := mJn 1 F.2.2.2.2 X.2.2.1 X.2.2.2.1; .inl ⟨false, X.2.1 + 1, j.2.1, j.2.2, ⟨F.1, 0, true, F.2.2.2.1, 42 :: j.1⟩ :: R⟩)
  else if F.1 < 2 then (let j := mJn 1 F.2.2.2.2 X.2.2.1 X.2.2.2.1; .inr (nOk X.2.1 j.2.2))
  else if F.1 = 3 ∨ F.1 = 6 then (if gSg K V X.2.1 44 = true then (let j := mJn 1 F.2.2.2.2 X.2.2.1 X.2.2.2.1; .inl ⟨false, X.2.1 + 1, j.2.1, j.2.2, ⟨if F.1 = 3 then 4 else 3, 0, F.2.2.1, F.2.2.2.1, j.1⟩ :: R⟩) else .inr (nBad 1 (St X.2.1)))
  else if gSg K V X.2.1 (if F.1 = 5 then 93 else 41) = true then
    (let j := mJn 1 F.2.2.2.2 X.2.2.1 X.2.2.2.1
     match R with
     | [] => .inr (nBad 9 0)
     | G :: R' => .inl ⟨true, X.2.1 + 1, j.2.1 - 1, j.2.2 ++ (if F.1 = 4 then [(F.2.2.2.1, 0)] else []), ⟨G.1, if F.1 = 5 then 2 else G.2.1, G.2.2.1, G.2.2.2.1, G.2.2.2.2⟩ :: R'⟩)
  else .inr (nBad 1 (St X.2.1))
def mStep (X : MS) : MS ⊕ NR :=
  match X.2.2.2.2 with
  | [] => .inr (nBad 9 0)
  | F :: R => if X.1 = true then mGo K V St X F R else mOp K V St lw X F R
def mRun : Nat → MS → NR
  | 0, _ => nBad 9 0
  | f + 1, X => match mStep K V St lw X with
    | .inl Y => mRun f Y
    | .inr r => r
/-- from X the machine comes to Y, a sign or more for each step -/
def mTo (X Y : MS) : Prop := ∃ s, s + X.2.1 ≤ Y.2.1 ∧ ∀ f, mRun K V St lw (f + s) X = mRun K V St lw f Y
/-- from X it ends with r -/
def mEnd (B : Nat) (X : MS) (r : NR) : Prop := ∃ s, s + X.2.1 ≤ B + 1 ∧ ∀ f, mRun K V St lw (f + s) X = r
variable {K V St lw}
theorem mTo_rf (X : MS) : mTo K V St lw X X := ⟨0, Nat.le_of_eq (Nat.zero_add _), fun _ => rfl⟩
theorem mTo_tr {X Y Z : MS} (h : mTo K V St lw X Y) (g : mTo K V St lw Y Z) : mTo K V St lw X Z := by
  obtain ⟨s, a, b⟩ := h
  obtain ⟨t, c, d⟩ := g
  refine ⟨t + s, by omega, fun f => ?_⟩
  rw [← Nat.add_assoc, b, d]
theorem mEnd_tr {B : Nat} {X Y : MS} {r : NR} (h : mTo K V St lw X Y) (g : mEnd K V St lw B Y r) : mEnd K V St lw B X r := by
  obtain ⟨s, a, b⟩ := h
  obtain ⟨t, c, d⟩ := g
  refine ⟨t + s, by omega, fun f => ?_⟩
  rw [← Nat.add_assoc, b, d]
theorem mTo_1 {X Y : MS} (h : mStep K V St lw X = .inl Y) (hk : X.2.1 + 1 ≤ Y.2.1) : mTo K V St lw X Y := by
  refine ⟨1, by omega, fun f => ?_⟩
  rw [mRun, h]
theorem mEnd_1 {B : Nat} {X : MS} {r : NR} (h : mStep K V St lw X = .inr r) (hk : X.2.1 ≤ B) : mEnd K V St lw B X r := by
  refine ⟨1, by omega, fun f => ?_⟩
  rw [mRun, h]
theorem mJn_all (r : Nat) : ∀ (p q : List Nat) (o : Nat) (L : List (Nat × Nat)), (∀ x, x ∈ p → r ≤ mRk x) → (∀ x, x ∈ q.head? → mRk x < r) → mJn r (p ++ q) (o + mCt p) L = (q, o, L ++ mEm p)
  | [], q, o, L, _, hq => by
    cases q with
    | nil => simp [mJn, mEm, mCt]
    | cons y q =>
      have := hq y rfl
      simp only [List.nil_append, mJn, mCt, mEm, List.map_nil, List.append_nil, Nat.add_zero]
      rw [if_neg (by omega)]
  | x :: p, q, o, L, hp, hq => by
    have hx := hp x List.mem_cons_self
    rw [List.cons_append, mJn, if_pos hx]
    have e : (if x = 43 then o + mCt (x :: p) - 1 else o + mCt (x :: p)) = o + mCt p := by
      rw [mCt]
      by_cases z : x = 43
      · rw [if_pos z, if_pos z]; omega
      · rw [if_neg z, if_neg z]; omega
    rw [e, mJn_all r p q o (L ++ [(x, 0)]) (fun y hy => hp y (List.mem_cons_of_mem _ hy)) hq]
    simp [mEm]
end MA
