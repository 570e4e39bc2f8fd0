theorem gOw_K {K V : Nat → Nat} {k w : Nat} (h : gOw K V k w = true) : K k = 4 ∧ V k = w := by
  unfold gOw at h
  rw [Bool.and_eq_true] at h
  exact ⟨of_decide_eq_true h.1, of_decide_eq_true h.2⟩
theorem gSg_K {K V : Nat → Nat} {k w : Nat} (h : gSg K V k w = true) : K k = 5 ∧ V k = w := by
  unfold gSg at h
  rw [Bool.and_eq_true] at h
  exact ⟨of_decide_eq_true h.1, of_decide_eq_true h.2⟩
theorem gOw_no {K V : Nat → Nat} {k : Nat} (h : K k ≠ 4) (w : Nat) : gOw K V k w = false := by
  unfold gOw; rw [decide_eq_false h]; rfl
theorem gSg_no {K V : Nat → Nat} {k : Nat} (h : K k ≠ 5) (w : Nat) : gSg K V k w = false := by
  unfold gSg; rw [decide_eq_false h]; rfl
section SI
variable (K V St : Nat → Nat) (lw B : Nat)
/-- signs end at B -/
def mOk : Prop := ∀ k, k ≤ B → 2 ≤ K k → k < B
/-- what comes of r: the machine comes to a state Y of which Q speaks, or ends with r's fault -/
def mRs (r : NR) (k : Nat) (X : MS) (Q : Nat → List (Nat × Nat) → MS → Prop) : Prop :=
  (r.1 = 0 ∧ k < r.2.2.1 ∧ r.2.2.1 ≤ B ∧ ∃ Y : MS, Y.2.1 = r.2.2.1 ∧ Q r.2.2.1 r.2.2.2 Y ∧ mTo K V St lw X Y) ∨ (r.1 ≠ 0 ∧ r = nBad r.1 r.2.1 ∧ mEnd K V St lw B X r)
def mHF (F : Fr) (k : Nat) : Prop := (mTs F.1 && F.2.2.1) = true → gOw K V k 20 = false ∧ gSg K V k 91 = false ∧ gOw K V k 21 = false
def mCl (F : Fr) (p : List Nat) : Fr := (F.1, F.2.1, false, F.2.2.2.1, p ++ F.2.2.2.2)
def q3 (o : Nat) (L : List (Nat × Nat)) (F : Fr) (R : List Fr) (k' : Nat) (L' : List (Nat × Nat)) (Y : MS) : Prop := Y = (true, k', o, L ++ L', mCl F [] :: R)
def q2 (o : Nat) (L : List (Nat × Nat)) (F : Fr) (R : List Fr) (k' : Nat) (L' : List (Nat × Nat)) (Y : MS) : Prop :=
  ∃ (p : List Nat) (M : List (Nat × Nat)), (∀ x, x ∈ p → 5 ≤ mRk x) ∧ M ++ mEm p = L ++ L' ∧ gWk K V k' = 0 ∧ gSt K V k' = 0 ∧ Y = (true, k', o, M, mCl F p :: R)
def q0 (o : Nat) (L : List (Nat × Nat)) (F : Fr) (R : List Fr) (k' : Nat) (L' : List (Nat × Nat)) (Y : MS) : Prop :=
  ∃ (p : List Nat) (M : List (Nat × Nat)) (ph : Nat), (∀ x, x ∈ p → 3 ≤ mRk x) ∧ M ++ mEm p = L ++ L' ∧ ph ≠ 0 ∧ (ph < 2 → gWk K V k' = 0 ∧ gSt K V k' = 0) ∧ Y = (true, k', o + mCt p, M, (F.1, ph, false, F.2.2.2.1, p ++ F.2.2.2.2) :: R)
def q1 (o : Nat) (L : List (Nat × Nat)) (F : Fr) (R : List Fr) (k' : Nat) (L' : List (Nat × Nat)) (Y : MS) : Prop :=
  ∃ (p : List Nat) (M : List (Nat × Nat)) (ph : Nat), (∀ x, x ∈ p → 1 ≤ mRk x) ∧ M ++ mEm p = L ++ L' ∧ ph ≠ 0 ∧ (ph < 2 → gWk K V k' = 0 ∧ gSt K V k' = 0) ∧ gOw K V k' 19 = false ∧ gOw K V k' 18 = false ∧ Y = (true, k', o + mCt p, M, (F.1, ph, false, F.2.2.2.1, p ++ F.2.2.2.2) :: R)
variable (Rn : Nat → Nat → Nat → Nat → NR) (o : Nat)
def m3 : Prop := ∀ (k : Nat) (L : List (Nat × Nat)) (F : Fr) (R : List Fr), k ≤ B → mHF K V F k → mRs K V St lw B (Rn 3 0 k o) k (false, k, o, L, F :: R) (q3 o L F R)
def m4 : Prop := ∀ (w k : Nat) (L : List (Nat × Nat)) (F : Fr) (R : List Fr), k ≤ B → (w = 22 ∨ w = 23 ∨ w = 17) → gOw K V k w = true → mRs K V St lw B (Rn 4 w k o) k (false, k, o, L, F :: R) (q3 o L F R)
def m2 : Prop := ∀ (k : Nat) (L : List (Nat × Nat)) (F : Fr) (R : List Fr), k ≤ B → mHF K V F k → F.2.1 < 2 → (∀ x, x ∈ F.2.2.2.2.head? → mRk x < 5) → mRs K V St lw B (Rn 2 0 k o) k (false, k, o, L, F :: R) (q2 K V o L F R)
def m0 : Prop := ∀ (k : Nat) (L : List (Nat × Nat)) (F : Fr) (R : List Fr), k ≤ B → mTs F.1 = true → F.2.2.1 = true → F.2.1 = 0 → (∀ x, x ∈ F.2.2.2.2.head? → mRk x < 4) → mRs K V St lw B (Rn 0 0 k o) k (false, k, o, L, F :: R) (q0 K V o L F R)
def m1 : Prop := ∀ (k : Nat) (L : List (Nat × Nat)) (F : Fr) (R : List Fr), k ≤ B → mTs F.1 = true → F.2.2.1 = true → F.2.1 = 0 → F.2.2.2.2 = [] → mRs K V St lw B (Rn 1 0 k o) k (false, k, o, L, F :: R) (q1 K V o L F R)
variable {K V St lw B Rn o}
theorem mRs_bind {r : NR} {f : Nat → List (Nat × Nat) → NR} {k : Nat} {X : MS} {Q Q' : Nat → List (Nat × Nat) → MS → Prop} (h : mRs K V St lw B r k X Q) (g : ∀ k' L' Y, k < k' → k' ≤ B → Y.2.1 = k' → Q k' L' Y → mRs K V St lw B (f k' L') k' Y Q') : mRs K V St lw B (nB r f) k X Q' := by
  rcases h with ⟨h1, h2, h3, Y, h4, h5, h6⟩ | ⟨h1, h2, h3⟩
  · unfold nB
    rw [if_pos h1]
    rcases g r.2.2.1 r.2.2.2 Y h2 h3 h4 h5 with ⟨g1, g2, g3, Z, g4, g5, g6⟩ | ⟨g1, g2, g3⟩
    · exact Or.inl ⟨g1, by omega, g3, Z, g4, g5, mTo_tr h6 g6⟩
    · exact Or.inr ⟨g1, g2, mEnd_tr h6 g3⟩
  · unfold nB
    rw [if_neg h1, ← h2]
    exact Or.inr ⟨h1, h2, h3⟩
theorem mRs_to {r : NR} {k k' : Nat} {X Y : MS} {Q : Nat → List (Nat × Nat) → MS → Prop} (h : mTo K V St lw X Y) (hk : k ≤ k') (g : mRs K V St lw B r k' Y Q) : mRs K V St lw B r k X Q := by
  rcases g with ⟨g1, g2, g3, Z, g4, g5, g6⟩ | ⟨g1, g2, g3⟩
  · exact Or.inl ⟨g1, by omega, g3, Z, g4, g5, mTo_tr h g6⟩
  · exact Or.inr ⟨g1, g2, mEnd_tr h g3⟩
theorem mRs_bad {f p k : Nat} {X : MS} {Q : Nat → List (Nat × Nat) → MS → Prop} (hf : f ≠ 0) (hk : X.2.1 ≤ B) (h : mStep K V St lw X = .inr (nBad f p)) : mRs K V St lw B (nBad f p) k X Q := Or.inr ⟨hf, rfl, mEnd_1 h hk⟩
theorem mRs_ok {k k' : Nat} {L' : List (Nat × Nat)} {X Y : MS} {Q : Nat → List (Nat × Nat) → MS → Prop} (hk : k < k') (hB : k' ≤ B) (hX : X.2.1 + 1 ≤ k') (hY : Y.2.1 = k') (h : mStep K V St lw X = .inl Y) (q : Q k' L' Y) : mRs K V St lw B (nOk k' L') k X Q :=
  Or.inl ⟨rfl, hk, hB, Y, hY, q, mTo_1 h (by omega)⟩
theorem mRs_q {r : NR} {k : Nat} {X : MS} {Q Q' : Nat → List (Nat × Nat) → MS → Prop} (h : mRs K V St lw B r k X Q) (g : ∀ k' L' Y, Q k' L' Y → Q' k' L' Y) : mRs K V St lw B r k X Q' := by
  rcases h with ⟨h1, h2, h3, Y, h4, h5, h6⟩ | h
  · exact Or.inl ⟨h1, h2, h3, Y, h4, g _ _ _ h5, h6⟩
  · exact Or.inr h
theorem mFt_K {k : Nat} (h : gFt K V lw k ≠ 0) : K k = 4 := by
  refine Classical.byContradiction (fun q => h ?_)
  unfold gFt
  simp only [gOw_no q]
  by_cases e : lw = 1
  · simp [e]
  · simp [e]
/-- a bracket's end -/
theorem mGo_close {k c o d : Nat} {M : List (Nat × Nat)} {p : List Nat} {F : Fr} {R : List Fr} (hk : K k ≠ 1) (hw : F.2.1 < 2 → gWk K V k = 0 ∧ gSt K V k = 0) (hts : mTs F.1 = true → F.2.1 ≠ 0 ∧ gOw K V k 19 = false ∧ gOw K V k 18 = false) (h2 : ¬ F.1 < 2) (h3 : ¬ (F.1 = 3 ∨ F.1 = 6)) (hc : (if F.1 = 5 then 93 else 41) = c) :
    mStep K V St lw (true, k, o, M, F :: R) = if gSg K V k c = true then
      (match R with
       | [] => .inr (nBad 9 0)
       | G :: R' => .inl (true, k + 1, (mJn 1 F.2.2.2.2 o M).2.1 - 1, (mJn 1 F.2.2.2.2 o M).2.2 ++ (if F.1 = 4 then [(F.2.2.2.1, 0)] else []), (G.1, if F.1 = 5 then 2 else G.2.1, G.2.2.1, G.2.2.2.1, G.2.2.2.2) :: R')) else .inr (nBad 1 (St k)) := by
  show mGo K V St (true, k, o, M, F :: R) F R = _
  unfold mGo
  dsimp only
  rw [if_neg hk, if_neg (fun q => q.2 (hw q.1).1), if_neg (fun q => q.2 (hw q.1).2), if_neg (fun q => (hts q.1).1 q.2.1), if_neg (fun q => (hts q.1).1 q.2), if_neg (fun q => by have := (hts q.1).2.1; rw [q.2] at this; exact Bool.noConfusion this), if_neg (fun q => by have := (hts q.1).2.2; rw [q.2] at this; exact Bool.noConfusion this), if_neg h2, if_neg h3, hc]
  rfl
end SI
