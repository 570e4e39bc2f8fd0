section SK
variable {K V St : Nat → Nat} {lw B : Nat} {Rn : Nat → Nat → Nat → Nat → NR} {o : Nat}
theorem mRs_bindB {r : NR} {f : Nat → List (Nat × Nat) → NR} {k k0 : Nat} {X : MS} {Q Q' : Nat → List (Nat × Nat) → MS → Prop} (h : mRs K V St lw B r k X Q) (g : ∀ k' L' Y, k < k' → k' ≤ B → Y.2.1 = k' → Q k' L' Y → mRs K V St lw B (f k' L') k0 Y Q') : mRs K V St lw B (nB r f) k0 X Q' := by
  rcases h with ⟨h1, h2, h3, Y, h4, h5, h6⟩ | ⟨h1, h2, h3⟩
  · unfold nB
    rw [if_pos h1]
    rcases g r.2.2.1 r.2.2.2 Y h2 h3 h4 h5 with ⟨g1, g2, g3, Z, g4, g5, g6⟩ | ⟨g1, g2, g3⟩
    · exact Or.inl ⟨g1, g2, g3, Z, g4, g5, mTo_tr h6 g6⟩
    · exact Or.inr ⟨g1, g2, mEnd_tr h6 g3⟩
  · unfold nB
    rw [if_neg h1, ← h2]
    exact Or.inr ⟨h1, h2, h3⟩
theorem mRs_lo {r : NR} {k k0 : Nat} {X : MS} {Q : Nat → List (Nat × Nat) → MS → Prop} (h : mRs K V St lw B r k X Q) (hk : k0 ≤ k) : mRs K V St lw B r k0 X Q := by
  rcases h with ⟨h1, h2, h3, h4⟩ | h
  · exact Or.inl ⟨h1, by omega, h3, h4⟩
  · exact Or.inr h
theorem mRs_here {k k0 : Nat} {L' : List (Nat × Nat)} {X : MS} {Q : Nat → List (Nat × Nat) → MS → Prop} (hk : k0 < k) (hB : k ≤ B) (hX : X.2.1 = k) (q : Q k L' X) : mRs K V St lw B (nOk k L') k0 X Q := Or.inl ⟨rfl, hk, hB, X, hX, q, mTo_rf X⟩
def mOw (w : Nat) : List Nat := if w = 0 then [] else [w]
theorem mEm_app (p q : List Nat) : mEm (p ++ q) = mEm p ++ mEm q := List.map_append
theorem mEm_ow (w : Nat) : mEm (mOw w) = gOwe w := by
  unfold mOw gOwe
  by_cases e : w = 0
  · rw [if_pos e, if_pos e]; rfl
  · rw [if_neg e, if_neg e]; rfl
theorem gSt_ne {k : Nat} (h : gSt K V k ≠ 0) : K k = 5 ∧ gWk K V k = 0 ∧ mRk (gSt K V k) = 6 := by
  have a : ∀ c, gSg K V k c = true → c ≠ 43 → c ≠ 45 → K k = 5 ∧ gWk K V k = 0 := by
    intro c hc q1 q2
    refine ⟨(gSg_K hc).1, ?_⟩
    unfold gWk
    rw [gSg_one hc q1, gSg_one hc q2]
    rfl
  unfold gSt at h ⊢
  by_cases h1 : gSg K V k 42 = true
  · have b := a 42 h1 (by decide) (by decide)
    rw [if_pos h1]; exact ⟨b.1, b.2, rfl⟩
  · rw [if_neg h1] at h ⊢
    by_cases h2 : gSg K V k 47 = true
    · have b := a 47 h2 (by decide) (by decide)
      rw [if_pos h2]; exact ⟨b.1, b.2, rfl⟩
    · rw [if_neg h2] at h ⊢
      by_cases h3 : gSg K V k 37 = true
      · have b := a 37 h3 (by decide) (by decide)
        rw [if_pos h3]; exact ⟨b.1, b.2, rfl⟩
      · rw [if_neg h3] at h; exact absurd rfl h
theorem gWk_ne {k : Nat} (h : gWk K V k ≠ 0) : K k = 5 ∧ mRk (gWk K V k) = 5 := by
  unfold gWk at h ⊢
  by_cases h1 : gSg K V k 43 = true
  · rw [if_pos h1]; exact ⟨(gSg_K h1).1, rfl⟩
  · rw [if_neg h1] at h ⊢
    by_cases h2 : gSg K V k 45 = true
    · rw [if_pos h2]; exact ⟨(gSg_K h2).1, rfl⟩
    · rw [if_neg h2] at h; exact absurd rfl h
theorem head_app {p q : List Nat} {P : Nat → Prop} (hp : ∀ x, x ∈ p → P x) (hq : ∀ x, x ∈ q.head? → P x) : ∀ x, x ∈ (p ++ q).head? → P x := by
  cases p with
  | nil => exact hq
  | cons y p => intro x hx; exact hp x (by simp at hx; rw [hx]; exact List.mem_cons_self)
theorem m_sumL (hB : mOk K B) (h3 : m3 K V St lw B Rn o) (L0 : List (Nat × Nat)) (F : Fr) (R : List Fr) (hph : F.2.1 < 2) (hp0 : ∀ x, x ∈ F.2.2.2.2.head? → mRk x < 5) : ∀ (f k k0 w : Nat) (L M : List (Nat × Nat)) (mp : List Nat), k0 < k → k ≤ B → B < f + k → (w = 0 ∨ mRk w = 5) → (∀ x, x ∈ mp → mRk x = 6) → M ++ mEm mp = L0 ++ L →
    mRs K V St lw B (gSumL K V Rn o f k w L) k0 (true, k, o, M, (F.1, F.2.1, false, F.2.2.2.1, mp ++ (mOw w ++ F.2.2.2.2)) :: R) (q2 K V o L0 F R) := by
  have how : ∀ w, (w = 0 ∨ mRk w = 5) → ∀ x, x ∈ mOw w → mRk x = 5 := by
    intro w hw x hx
    unfold mOw at hx
    by_cases e : w = 0
    · rw [if_pos e] at hx; cases hx
    · rw [if_neg e] at hx
      rw [List.mem_singleton.mp hx]
      exact hw.elim (fun q => absurd q e) id
  intro f
  induction f with
  | zero => intro k k0 w L M mp _ h1 h2; omega
  | succ f ih =>
    intro k k0 w L M mp hk0 hk hf hw hmp hM
    have hpo := how w hw
    rw [gSumL]
    by_cases s0 : gSt K V k ≠ 0
    · obtain ⟨e5, w0, r6⟩ := gSt_ne s0
      have hkB := hB k hk (by omega)
      rw [if_pos s0]
      have hj := mJn_all 6 mp (mOw w ++ F.2.2.2.2) o M (fun x hx => by rw [hmp x hx]; decide) (head_app (fun x hx => by rw [hpo x hx]; decide) (fun x hx => by have := hp0 x hx; omega))
      rw [mCt0 mp (fun x hx => by rw [hmp x hx]; decide), hM, Nat.add_zero] at hj
      have st : mStep K V St lw (true, k, o, M, (F.1, F.2.1, false, F.2.2.2.1, mp ++ (mOw w ++ F.2.2.2.2)) :: R) = .inl (false, k + 1, o, L0 ++ L, (F.1, F.2.1, false, F.2.2.2.1, gSt K V k :: (mOw w ++ F.2.2.2.2)) :: R) := by
        show mGo K V St (true, k, o, M, (F.1, F.2.1, false, F.2.2.2.1, mp ++ (mOw w ++ F.2.2.2.2)) :: R) (F.1, F.2.1, false, F.2.2.2.1, mp ++ (mOw w ++ F.2.2.2.2)) R = _
        unfold mGo
        dsimp only
        rw [if_neg (by omega), if_neg (fun q => q.2 w0), if_pos ⟨hph, s0⟩, hj]
      refine mRs_to (mTo_1 st (Nat.le_refl _)) (Nat.le_refl k0) ?_
      refine mRs_bindB (h3 (k + 1) (L0 ++ L) (F.1, F.2.1, false, F.2.2.2.1, gSt K V k :: (mOw w ++ F.2.2.2.2)) R hkB (fun q => by rw [Bool.and_false] at q; exact Bool.noConfusion q)) ?_
      intro k' L' Y hk1 hk2 hY hQ
      unfold q3 at hQ
      subst hQ
      exact (ih k' k0 w (L ++ L' ++ [(gSt K V k, 0)]) (L0 ++ L ++ L') [gSt K V k] (by omega) hk2 (by omega) hw (fun x hx => by rw [List.mem_singleton.mp hx]; exact r6) (by simp [mEm]))
    · rw [if_neg s0]
      by_cases w0 : gWk K V k ≠ 0
      · obtain ⟨e5, r5⟩ := gWk_ne w0
        have hkB := hB k hk (by omega)
        rw [if_pos w0]
        have hj := mJn_all 5 (mp ++ mOw w) F.2.2.2.2 o M (fun x hx => by
          rcases List.mem_append.mp hx with q | q
          · rw [hmp x q]; decide
          · rw [hpo x q]; decide) hp0
        rw [mCt0 (mp ++ mOw w) (fun x hx => by
          rcases List.mem_append.mp hx with q | q
          · rw [hmp x q]; decide
          · rw [hpo x q]; decide), mEm_app, ← List.append_assoc, hM, mEm_ow, Nat.add_zero, List.append_assoc mp] at hj
        have st : mStep K V St lw (true, k, o, M, (F.1, F.2.1, false, F.2.2.2.1, mp ++ (mOw w ++ F.2.2.2.2)) :: R) = .inl (false, k + 1, o, L0 ++ L ++ gOwe w, (F.1, F.2.1, false, F.2.2.2.1, gWk K V k :: F.2.2.2.2) :: R) := by
          show mGo K V St (true, k, o, M, (F.1, F.2.1, false, F.2.2.2.1, mp ++ (mOw w ++ F.2.2.2.2)) :: R) (F.1, F.2.1, false, F.2.2.2.1, mp ++ (mOw w ++ F.2.2.2.2)) R = _
          unfold mGo
          dsimp only
          rw [if_neg (by omega), if_pos ⟨hph, w0⟩, hj]
        refine mRs_to (mTo_1 st (Nat.le_refl _)) (Nat.le_refl k0) ?_
        refine mRs_bindB (h3 (k + 1) (L0 ++ L ++ gOwe w) (F.1, F.2.1, false, F.2.2.2.1, gWk K V k :: F.2.2.2.2) R hkB (fun q => by rw [Bool.and_false] at q; exact Bool.noConfusion q)) ?_
        intro k' L' Y hk1 hk2 hY hQ
        unfold q3 at hQ
        subst hQ
        have ow : mOw (gWk K V k) = [gWk K V k] := by unfold mOw; rw [if_neg w0]
        have g := ih k' k0 (gWk K V k) (L ++ gOwe w ++ L') (L0 ++ L ++ gOwe w ++ L') [] (by omega) hk2 (by omega) (Or.inr r5) (fun x hx => by cases hx) (by simp [mEm])
        rw [ow] at g
        exact g
      · rw [if_neg w0]
        refine mRs_here hk0 hk rfl ?_
        refine ⟨mp ++ mOw w, M, fun x hx => ?_, ?_, Classical.not_not.mp w0, Classical.not_not.mp s0, ?_⟩
        · rcases List.mem_append.mp hx with q | q
          · rw [hmp x q]; decide
          · rw [hpo x q]; decide
        · rw [mEm_app, ← List.append_assoc, hM, mEm_ow, List.append_assoc]
        · show _ = (true, k, o, M, (F.1, F.2.1, false, F.2.2.2.1, mp ++ mOw w ++ F.2.2.2.2) :: R)
          rw [List.append_assoc]
theorem m_sum (hB : mOk K B) (hB2 : B ≤ 1600) (h3 : m3 K V St lw B Rn o) (k : Nat) (L : List (Nat × Nat)) (F : Fr) (R : List Fr) (hk : k ≤ B) (hF : mHF K V F k) (hph : F.2.1 < 2) (hp0 : ∀ x, x ∈ F.2.2.2.2.head? → mRk x < 5) : mRs K V St lw B (gSum K V Rn k o) k (false, k, o, L, F :: R) (q2 K V o L F R) := by
  unfold gSum
  refine mRs_bindB (h3 k L F R hk hF) ?_
  intro k' L' Y hk1 hk2 hY hQ
  unfold q3 at hQ
  subst hQ
  exact m_sumL hB h3 L F R hph hp0 1600 k' k 0 L' (L ++ L') [] hk1 hk2 (by omega) (Or.inl rfl) (fun x hx => by cases hx) (by simp [mEm])
end SK
