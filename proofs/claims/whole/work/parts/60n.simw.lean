section SW
variable {K V St : Nat → Nat} {lw B : Nat}
/-- what a whole formula comes to: a bad sign behind it is told at once -/
def nTop (r : NR) : NR := if r.1 = 0 then (if K r.2.2.1 = 1 then nBad 1 (V r.2.2.1) else nOk r.2.2.1 r.2.2.2) else r
theorem mGo_top {k o kd ph : Nat} {M : List (Nat × Nat)} {pd : List Nat} (hk : K k ≠ 1) (hw : ph < 2 → gWk K V k = 0 ∧ gSt K V k = 0) (hts : mTs kd = true → ph ≠ 0 ∧ gOw K V k 19 = false ∧ gOw K V k 18 = false) (h2 : kd < 2) :
    mStep K V St lw (true, k, o, M, [(kd, ph, false, 0, pd)]) = .inr (nOk k (mJn 1 pd o M).2.2) := by
  show mGo K V St (true, k, o, M, [(kd, ph, false, 0, pd)]) (kd, ph, false, 0, pd) [] = _
  unfold mGo
  dsimp only
  rw [if_neg hk, if_neg (fun q => q.2 (hw q.1).1), if_neg (fun q => q.2 (hw q.1).2), if_neg (fun q => (hts q.1).1 q.2.1), if_neg (fun q => (hts q.1).1 q.2), if_neg (fun q => by have := (hts q.1).2.1; rw [q.2] at this; exact Bool.noConfusion this), if_neg (fun q => by have := (hts q.1).2.2; rw [q.2] at this; exact Bool.noConfusion this), if_pos h2]
theorem m_topE {r : NR} {k : Nat} {X : MS} {Q : Nat → List (Nat × Nat) → MS → Prop} (hX : X.2.1 = k) (hk : k ≤ B) (h : mRs K V St lw B r k X Q) (g : ∀ k' L' Y, Q k' L' Y → mStep K V St lw Y = .inr (if K k' = 1 then nBad 1 (V k') else nOk k' L')) (f : Nat) (hf : B + 2 ≤ f) : mRun K V St lw f X = nTop (K := K) (V := V) r := by
  obtain ⟨r1, r2, k', L'⟩ := r
  rcases h with ⟨h1, h2, h3, Y, h4, h5, s, h6, h7⟩ | ⟨h1, h2, s, h6, h7⟩
  · dsimp only at h1 h2 h3 h4 h5
    obtain ⟨e, rfl⟩ : ∃ e, f = e + 1 + s := ⟨f - 1 - s, by omega⟩
    rw [h7, mRun, g _ _ _ h5]
    unfold nTop
    dsimp only
    rw [if_pos h1]
  · obtain ⟨e, rfl⟩ : ∃ e, f = e + s := ⟨f - s, by omega⟩
    rw [h7]
    unfold nTop
    rw [if_neg h1]
/-- the machine on a whole formula -/
theorem m_top (hB : mOk K B) (hB2 : B ≤ 1600) (w k : Nat) (hk : k ≤ B) (f : Nat) (hf : B + 2 ≤ f) : mRun K V St lw f (false, k, 0, [], [(if w = 2 then 0 else 1, 0, true, 0, [])]) = nTop (K := K) (V := V) (gRec K V St lw 60 (if w = 2 then 2 else 1) 0 k 0) := by
  have rec60 := m_rec (V := V) (St := St) (lw := lw) hB hB2 60 0 (by decide)
  rw [(gNd 0).1, (gNd 0).2.1, (gNd 0).2.2.1, (gNd 0).2.2.2.1, (gNd 0).2.2.2.2] at rec60
  by_cases w2 : w = 2
  · rw [if_pos w2, if_pos w2]
    refine m_topE rfl hk (rec60.2.2.1 (by decide) k [] (0, 0, true, 0, []) [] hk (fun q => absurd q (show ¬ (mTs 0 && true) = true by decide)) (show 0 < 2 by decide) (fun x hx => by cases hx)) ?_ f hf
    intro k' L' Y hQ
    obtain ⟨p, M, hp, hM, n1, n2, e⟩ := hQ
    subst e
    have hj := mJn_all 1 p [] 0 M (fun x hx => by have := hp x hx; omega) (fun x hx => by cases hx)
    rw [mCt0 p (fun x hx => by have := hp x hx; omega), hM] at hj
    by_cases e1 : K k' = 1
    · rw [if_pos e1]; exact mGo_lex e1
    · rw [if_neg e1]
      refine Eq.trans (mGo_top (St := St) (lw := lw) (o := 0) (kd := 0) (ph := 0) (M := M) (pd := p ++ []) e1 (fun _ => ⟨n1, n2⟩) (fun q => absurd q (show ¬ mTs 0 = true by decide)) (by decide)) ?_
      rw [hj]; rfl
  · rw [if_neg w2, if_neg w2]
    refine m_topE rfl hk (rec60.2.1 (by decide) k [] (1, 0, true, 0, []) [] hk rfl rfl rfl rfl) ?_ f hf
    intro k' L' Y hQ
    obtain ⟨p, M, ph, hp, hM, hph, hna, n19, n18, e⟩ := hQ
    subst e
    have hj := mJn_all 1 p [] 0 M hp (fun x hx => by cases hx)
    rw [hM] at hj
    by_cases e1 : K k' = 1
    · rw [if_pos e1]; exact mGo_lex e1
    · rw [if_neg e1]
      refine Eq.trans (mGo_top (St := St) (lw := lw) (o := 0 + mCt p) (kd := 1) (ph := ph) (M := M) (pd := p ++ []) e1 hna (fun _ => ⟨hph, n19, n18⟩) (by decide)) ?_
      rw [hj]; rfl
end SW
