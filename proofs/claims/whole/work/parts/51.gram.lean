/-- fault (0: none), its place, the next sign, the codes -/
abbrev NR : Type := Nat × Nat × Nat × List (Nat × Nat)
def nOk (k : Nat) (L : List (Nat × Nat)) : NR := (0, 0, k, L)
def nBad (f p : Nat) : NR := (f, p, 0, [])
def nB (r : NR) (f : Nat → List (Nat × Nat) → NR) : NR := if r.1 = 0 then f r.2.2.1 r.2.2.2 else nBad r.1 r.2.1
section GR
variable (K V St : Nat → Nat) (lw : Nat)
def gWh (k : Nat) : Nat := if K k = 1 then V k else St k
def gOw (k w : Nat) : Bool := decide (K k = 4) && decide (V k = w)
def gSg (k c : Nat) : Bool := decide (K k = 5) && decide (V k = c)
def gFt (k : Nat) : Nat := if gOw K V k 11 = true then 1 else if lw = 1 then (if gOw K V k 14 = true then 5 else if gOw K V k 15 = true then 6 else if gOw K V k 16 = true then 7 else 0) else (if gOw K V k 2 = true then 2 else if gOw K V k 12 = true then 3 else if gOw K V k 13 = true then 4 else 0)
def gSt (k : Nat) : Nat := if gSg K V k 42 = true then 33 else if gSg K V k 47 = true then 34 else if gSg K V k 37 = true then 35 else 0
def gWk (k : Nat) : Nat := if gSg K V k 43 = true then 31 else if gSg K V k 45 = true then 32 else 0
def gCm (k : Nat) : Nat := if gSg K V k 60 = true then 38 else if gSg K V k 62 = true then 39 else if gSg K V k 61 = true then 40 else 0
def gOwe (w : Nat) : List (Nat × Nat) := if w = 0 then [] else [(w, 0)]
/-- one more open -/
def gOpen (k o : Nat) (r : NR) : NR := if 7 ≤ o then nBad 5 (St k) else r
/-- a sign that must be -/
def gMust (k c : Nat) (r : NR) : NR := if gSg K V k c = true then r else nBad 1 (gWh K V St k)
def gPart (R : Nat → Nat → Nat → Nat → NR) (k o : Nat) : NR :=
  if K k = 2 then nOk (k + 1) [(0, V k)]
  else if gFt K V lw k ≠ 0 then nOk (k + 1) [(gFt K V lw k, 0)]
  else if gSg K V k 40 = true then gOpen St k o (nB (R 2 0 (k + 1) (o + 1)) (fun k' L => gMust K V St k' 41 (nOk (k' + 1) L)))
  else if gOw K V k 22 = true then R 4 22 k o
  else if gOw K V k 23 = true then R 4 23 k o
  else if gOw K V k 17 = true then R 4 17 k o
  else nBad 1 (gWh K V St k)
def gCall2 (R : Nat → Nat → Nat → Nat → NR) (w k o : Nat) (L0 : List (Nat × Nat)) : NR :=
  nB (R 2 0 k o) (fun k1 L1 => gMust K V St k1 44 (nB (R 2 0 (k1 + 1) o) (fun k2 L2 => gMust K V St k2 41 (nOk (k2 + 1) (L0 ++ L1 ++ L2 ++ [(if w = 17 then 44 else if w = 22 then 36 else 37, 0)])))))
def gCall (R : Nat → Nat → Nat → Nat → NR) (w k o : Nat) : NR :=
  gMust K V St (k + 1) 40 (gOpen St (k + 1) o (if w = 17 then nB (R 1 0 (k + 2) (o + 1)) (fun k0 L0 => gMust K V St k0 44 (gCall2 K V St R w (k0 + 1) (o + 1) L0)) else gCall2 K V St R w (k + 2) (o + 1) []))
def gSumL (R : Nat → Nat → Nat → Nat → NR) (o : Nat) : Nat → Nat → Nat → List (Nat × Nat) → NR
  | 0, k, w, L => nOk k (L ++ gOwe w)
  | f + 1, k, w, L =>
    if gSt K V k ≠ 0 then nB (R 3 0 (k + 1) o) (fun k' L' => gSumL R o f k' w (L ++ L' ++ [(gSt K V k, 0)]))
    else if gWk K V k ≠ 0 then nB (R 3 0 (k + 1) o) (fun k' L' => gSumL R o f k' (gWk K V k) (L ++ gOwe w ++ L'))
    else nOk k (L ++ gOwe w)
def gSum (R : Nat → Nat → Nat → Nat → NR) (k o : Nat) : NR := nB (R 3 0 k o) (fun k' L => gSumL K V R o 1600 k' 0 L)
def gTestL (R : Nat → Nat → Nat → Nat → NR) (o : Nat) : Nat → Nat → Nat → List (Nat × Nat) → NR
  | 0, k, w, L => nOk k (L ++ gOwe w)
  | f + 1, k, w, L =>
    if gOw K V k 19 = true then nB (R 0 0 (k + 1) o) (fun k' L' => gTestL R o f k' w (L ++ L' ++ [(41, 0)]))
    else if gOw K V k 18 = true then nB (R 0 0 (k + 1) o) (fun k' L' => gTestL R o f k' 42 (L ++ gOwe w ++ L'))
    else nOk k (L ++ gOwe w)
def gTest (R : Nat → Nat → Nat → Nat → NR) (k o : Nat) : NR := nB (R 0 0 k o) (fun k' L => gTestL K V R o 1600 k' 0 L)
def gFact (R : Nat → Nat → Nat → Nat → NR) (k o : Nat) : NR :=
  if gOw K V k 20 = true then gOpen St k o (nB (R 0 0 (k + 1) (o + 1)) (fun k' L => nOk k' (L ++ [(43, 0)])))
  else if gSg K V k 91 = true then gOpen St k o (nB (R 1 0 (k + 1) (o + 1)) (fun k' L => gMust K V St k' 93 (nOk (k' + 1) L)))
  else if gOw K V k 21 = true then nOk (k + 1) [(30, 0)]
  else nB (R 2 0 k o) (fun k' L => if gCm K V k' = 0 then nBad 1 (gWh K V St k') else nB (R 2 0 (k' + 1) o) (fun k2 L2 => nOk k2 (L ++ L2 ++ [(gCm K V k', 0)])))
def gRec : Nat → Nat → Nat → Nat → Nat → NR
  | 0 => fun _ _ _ _ => nBad 9 0
  | n + 1 => fun j w k o => match j with
    | 0 => gFact K V St (gRec n) k o
    | 1 => gTest K V (gRec n) k o
    | 2 => gSum K V (gRec n) k o
    | 3 => gPart K V St lw (gRec n) k o
    | _ => gCall K V St (gRec n) w k o
end GR
/-- codes laid -/
def gput (A : Nat → Int32) (c : Nat) : List (Nat × Nat) → (Nat → Int32)
  | [] => A
  | x :: L => gput (upd A c (ecl x.1 x.2)) (c + 1) L
theorem gput_app : ∀ (L M : List (Nat × Nat)) (A : Nat → Int32) (c : Nat), gput A c (L ++ M) = gput (gput A c L) (c + L.length) M
  | [], M, A, c => rfl
  | x :: L, M, A, c => by
    show gput (upd A c (ecl x.1 x.2)) (c + 1) (L ++ M) = gput (gput (upd A c (ecl x.1 x.2)) (c + 1) L) (c + (L.length + 1)) M
    rw [gput_app L M, show c + 1 + L.length = c + (L.length + 1) by omega]
theorem gput_1 (L : List (Nat × Nat)) (x : Nat × Nat) (A : Nat → Int32) (c : Nat) : gput A c (L ++ [x]) = upd (gput A c L) (c + L.length) (ecl x.1 x.2) := by
  rw [gput_app]; rfl
abbrev CR : Type := Int32 × Int32 × Int32 × Int32 × Int32 × Int32 × (Nat → Int32)
abbrev CS : Type := Int32 × Int32 × CR
abbrev CO : Type := Nat → Int32 → Int32 → Int32 → Int32 → Int32 → Int32 → Int32 → Int32 → Int32 → Int32 → (Nat → Int32) → (Nat → Int32) → (Nat → Int32) → Int32 → (Nat → Int32) → Option (Int32 × Int32 × Int32 × Int32 × Int32 × Int32 × Int32 × Int32 × (Nat → Int32))
theorem s_emit (c : Nat) (hc : c < 1600) (x : Int32) (A : Nat → Int32) : mX7_emit x (nI c) A = (nI (c + 1), upd A c x) := by
  unfold mX7_emit
  rw [s_put 1600 c hc (by decide), xlet_eq, nI_1]
-- a fault stays
section DE
variable (R : CO) (tok tp : Int32) (ks ss vs : Nat → Int32)
def cDead (j : Nat) : Prop := ∀ (w F P now kd st v op c : Int32) (A : Nat → Int32), ¬ F = 0 → ∃ s, R j w F P tok now kd st v op tp ks ss vs c A = some (F, P, s)
theorem s_fail0 (a b F P : Int32) (h : ¬ F = 0) : mX8_fail a b F P = (F, P) := by
  unfold mX8_fail; rw [if_neg h]
theorem s_sign_dead (x F P now kd st v : Int32) (h : ¬ F = 0) : ∃ s, mX8_sign x F P tok now kd st v ks ss vs = (F, P, s) := by
  unfold mX8_sign
  rcases mX8_next tok now st ks ss vs with ⟨q1, q2, q3, q4⟩
  split
  · exact ⟨_, rfl⟩
  · rw [s_fail0 _ _ F P h]
    exact ⟨_, rfl⟩
theorem s_open_dead (F P now st op : Int32) (h : ¬ F = 0) : ∃ s, mX8_openOne F P tok now st op ks ss vs = (F, P, s) := by
  unfold mX8_openOne mX8_openOne_18
  rcases mX8_next tok now st ks ss vs with ⟨q1, q2, q3, q4⟩
  split
  · exact ⟨_, rfl⟩
  · rw [s_fail0 _ _ F P h]
    exact ⟨_, rfl⟩
theorem d_fact (F P now kd st v op c : Int32) (A : Nat → Int32) (h : ¬ F = 0) : ∃ s, mX8_fact R F P tok now kd st v op tp ks ss vs c A = some (F, P, s) := by
  unfold mX8_fact
  rw [if_neg h]
  exact ⟨_, rfl⟩
theorem d_part (F P now kd st v op c : Int32) (A : Nat → Int32) (h : ¬ F = 0) : ∃ s, mX8_part R F P tok now kd st v op tp ks ss vs c A = some (F, P, s) := by
  unfold mX8_part
  rw [if_neg h]
  exact ⟨_, rfl⟩
theorem d_sum8 (k i : Nat) (x F P now kd st v op c : Int32) (A : Nat → Int32) (h : ¬ F = 0) : ∃ s, mX8_sum_8 R tok tp ks ss vs k i x F P now kd st v op c A = some (F, P, s) := by
  have e : ∃ s, mX8_sum_115 x F P now kd st v op c A = some (F, P, s) := by
    unfold mX8_sum_115
    rcases mX7_emit x c A with ⟨q1, q2⟩
    split
    · exact ⟨_, rfl⟩
    · exact ⟨_, rfl⟩
  cases k with
  | zero => rw [mX8_sum_8]; exact e
  | succ k => rw [mX8_sum_8, if_neg h]; exact e
theorem d_sum (h3 : cDead R tok tp ks ss vs 3) (F P now kd st v op c : Int32) (A : Nat → Int32) (h : ¬ F = 0) : ∃ s, mX8_sum R F P tok now kd st v op tp ks ss vs c A = some (F, P, s) := by
  unfold mX8_sum
  obtain ⟨⟨a1, a2, a3, a4, a5, a6, a7⟩, e⟩ := h3 0 F P now kd st v op c A h
  rw [e, obind]
  exact d_sum8 R tok tp ks ss vs 1600 0 0 F P a1 a2 a3 a4 a5 a6 a7 h
theorem d_test8 (k i : Nat) (x F P now kd st v op c : Int32) (A : Nat → Int32) (h : ¬ F = 0) : ∃ s, mX8_test_8 R tok tp ks ss vs k i x F P now kd st v op c A = some (F, P, s) := by
  have e : ∃ s, mX8_test_89 x F P now kd st v op c A = some (F, P, s) := by
    unfold mX8_test_89
    rcases mX7_emit (-21) c A with ⟨q1, q2⟩
    split
    · exact ⟨_, rfl⟩
    · exact ⟨_, rfl⟩
  cases k with
  | zero => rw [mX8_test_8]; exact e
  | succ k => rw [mX8_test_8, if_neg h]; exact e
theorem d_test (h3 : cDead R tok tp ks ss vs 0) (F P now kd st v op c : Int32) (A : Nat → Int32) (h : ¬ F = 0) : ∃ s, mX8_test R F P tok now kd st v op tp ks ss vs c A = some (F, P, s) := by
  unfold mX8_test
  obtain ⟨⟨a1, a2, a3, a4, a5, a6, a7⟩, e⟩ := h3 0 F P now kd st v op c A h
  rw [e, obind]
  exact d_test8 R tok tp ks ss vs 1600 0 0 F P a1 a2 a3 a4 a5 a6 a7 h
theorem d_call42 (h2 : cDead R tok tp ks ss vs 2) (w F P now kd st v op c : Int32) (A : Nat → Int32) (h : ¬ F = 0) : ∃ s, mX8_call_42 R w tok tp ks ss vs F P now kd st v op c A = some (F, P, s) := by
  unfold mX8_call_42
  obtain ⟨⟨a1, a2, a3, a4, a5, a6, a7⟩, e⟩ := h2 0 F P now kd st v op c A h
  rw [e, obind]
  simp only [xu]
  obtain ⟨⟨b1, b2, b3, b4⟩, e⟩ := s_sign_dead tok ks ss vs 44 F P a1 a2 a3 a4 h
  rw [e, xlet_eq]
  simp only [xu]
  obtain ⟨⟨c1, c2, c3, c4, c5, c6, c7⟩, e⟩ := h2 0 F P b1 b2 b3 b4 a5 a6 a7 h
  rw [e, obind]
  simp only [xu]
  obtain ⟨⟨d1, d2, d3, d4⟩, e⟩ := s_sign_dead tok ks ss vs 41 F P c1 c2 c3 c4 h
  rw [e, xlet_eq]
  simp only [xu]
  rcases mX7_emit (-23) c6 c7 with ⟨p1, p2⟩
  rcases mX7_emit (-15) c6 c7 with ⟨p3, p4⟩
  rcases mX7_emit (-16) c6 c7 with ⟨p5, p6⟩
  split
  · exact ⟨_, rfl⟩
  · split
    · exact ⟨_, rfl⟩
    · exact ⟨_, rfl⟩
theorem d_call22 (h1 : cDead R tok tp ks ss vs 1) (h2 : cDead R tok tp ks ss vs 2) (w F P now kd st v op c : Int32) (A : Nat → Int32) (h : ¬ F = 0) : ∃ s, mX8_call_22 R w tok op tp ks ss vs c A F P now kd st v = some (F, P, s) := by
  unfold mX8_call_22
  obtain ⟨⟨a1, a2, a3, a4, a5⟩, e⟩ := s_open_dead tok ks ss vs F P now st op h
  rw [e, xlet_eq]
  simp only [xu]
  split
  · obtain ⟨⟨b1, b2, b3, b4, b5, b6, b7⟩, e⟩ := h1 0 F P a1 a2 a3 a4 a5 c A h
    rw [e, obind]
    simp only [xu]
    obtain ⟨⟨d1, d2, d3, d4⟩, e⟩ := s_sign_dead tok ks ss vs 44 F P b1 b2 b3 b4 h
    rw [e, xlet_eq]
    exact d_call42 R tok tp ks ss vs h2 w F P d1 d2 d3 d4 b5 b6 b7 h
  · exact d_call42 R tok tp ks ss vs h2 w F P a1 a2 a3 a4 a5 c A h
theorem d_call (h1 : cDead R tok tp ks ss vs 1) (h2 : cDead R tok tp ks ss vs 2) (w F P now st op c : Int32) (A : Nat → Int32) (h : ¬ F = 0) : ∃ s, mX8_call R w F P tok now st op tp ks ss vs c A = some (F, P, s) := by
  unfold mX8_call
  rcases mX8_next tok now st ks ss vs with ⟨q1, q2, q3, q4⟩
  rw [xlet_eq]
  simp only [xu]
  split
  · exact d_call22 R tok tp ks ss vs h1 h2 w F P q1 q2 q3 q4 op c A h
  · rw [s_fail0 _ _ F P h]
    exact d_call22 R tok tp ks ss vs h1 h2 w F P q1 q2 q3 q4 op c A h
end DE
theorem d_rec (tok tp : Int32) (ks ss vs : Nat → Int32) : ∀ n, (∀ j, (j = 0 ∨ j = 3) → cDead (mX8_rec (n + 1)) tok tp ks ss vs j) ∧ (∀ j, (j = 1 ∨ j = 2) → cDead (mX8_rec (n + 2)) tok tp ks ss vs j) ∧ (∀ j, cDead (mX8_rec (n + 3)) tok tp ks ss vs j) := by
  intro n
  have A : ∀ n, ∀ j, (j = 0 ∨ j = 3) → cDead (mX8_rec (n + 1)) tok tp ks ss vs j := by
    intro n j hj w F P now kd st v op c A h
    rcases hj with e | e <;> subst e
    · exact d_fact (mX8_rec n) tok tp ks ss vs F P now kd st v op c A h
    · exact d_part (mX8_rec n) tok tp ks ss vs F P now kd st v op c A h
  have B : ∀ n, ∀ j, (j = 1 ∨ j = 2) → cDead (mX8_rec (n + 2)) tok tp ks ss vs j := by
    intro n j hj w F P now kd st v op c A' h
    rcases hj with e | e <;> subst e
    · exact d_test (mX8_rec (n + 1)) tok tp ks ss vs (A n 0 (Or.inl rfl)) F P now kd st v op c A' h
    · exact d_sum (mX8_rec (n + 1)) tok tp ks ss vs (A n 3 (Or.inr rfl)) F P now kd st v op c A' h
  refine ⟨A n, B n, fun j => ?_⟩
  match j with
  | 0 => exact A (n + 2) 0 (Or.inl rfl)
  | 1 => exact B (n + 1) 1 (Or.inl rfl)
  | 2 => exact B (n + 1) 2 (Or.inr rfl)
  | 3 => exact A (n + 2) 3 (Or.inr rfl)
  | j + 4 =>
    intro w F P now kd st v op c A' h
    exact d_call (mX8_rec (n + 2)) tok tp ks ss vs (B n 1 (Or.inl rfl)) (B n 2 (Or.inr rfl)) w F P now st op c A' h
